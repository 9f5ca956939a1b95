import java.util.Random;

/** Texts of laws for the random tests, right ones and spoilt ones. */
final class Laws {
    private Laws() { }

    static String text(Random random) {
        for (int tries = 0; tries < 1000; tries++) {
            StringBuilder text = new StringBuilder();
            int clauses = 1 + random.nextInt(3);
            for (int k = 0; k < clauses; k++) {
                if (k > 0) add(text, ";", random);
                clause(text, random);
            }
            if (text.length() <= 160 && Grammar.fault(text.toString()) == -1) return text.toString();
        }
        throw new IllegalStateException();
    }

    /** A text in which a byte was put in, taken out or changed, or that ends too early. */
    static String wrong(Random random) {
        StringBuilder text = new StringBuilder(text(random));
        String signs = "whstvcfyinlxr0123456789:;?!&|()[]=<>+-*/ qZ~\u0001\u00ff";
        char sign = signs.charAt(random.nextInt(signs.length()));
        int at = random.nextInt(text.length());
        switch (random.nextInt(4)) {
            case 0: text.insert(at, sign); break;
            case 1: text.setCharAt(at, sign); break;
            case 2: text.deleteCharAt(at); break;
            default: text.setLength(at); break;
        }
        return text.length() == 0 ? ":" : text.length() > 160 ? text.substring(0, 160) : text.toString();
    }

    /** As many of the first twenty bytes as five numbers hold, sometimes with zeros between. */
    static int[] numbers(String text, Random random) {
        int[] numbers = new int[5];
        int at = 0;
        boolean gaps = random.nextInt(8) == 0;
        for (int k = 0; k < 20; k++) {
            int one = at < text.length() && !(gaps && random.nextInt(3) == 0) ? text.charAt(at++) : 0;
            numbers[k / 4] |= one << 24 - 8 * (k % 4);
        }
        return numbers;
    }

    static int held(int[] numbers) {
        int sum = 0;
        for (int n : numbers) for (int k = 0; k < 32; k += 8) if ((n >>> k & 255) != 0) sum++;
        return sum;
    }

    private static void add(StringBuilder text, String piece, Random random) {
        text.append(piece);
        while (random.nextInt(12) == 0) text.append(' ');
    }

    private static void clause(StringBuilder text, Random random) {
        char label = "wwhsttvvccf".charAt(random.nextInt(11));
        add(text, "" + label, random);
        add(text, ":", random);
        if (random.nextInt(3) > 0) {
            condition(text, random, 0);
            add(text, "?", random);
        }
        switch (random.nextInt(3)) {
            case 0: add(text, "" + usual(label, random), random); break;
            case 1: add(text, letter(random) + (random.nextBoolean() ? "+" : "*") + random.nextInt(30), random); break;
            default: sum(text, random, 0); break;
        }
    }

    private static int usual(char label, Random random) {
        switch (label) {
            case 'w': return random.nextInt(70);
            case 'h': return random.nextInt(50);
            case 's': return random.nextInt(4);
            case 'v': return random.nextInt(100);
            default: return random.nextInt(2);
        }
    }

    private static String letter(Random random) {
        return "" + "yinlxr".charAt(random.nextInt(6));
    }

    private static void condition(StringBuilder text, Random random, int depth) {
        unit(text, random, depth);
        while (random.nextInt(3) == 0) {
            add(text, random.nextBoolean() ? "|" : "&", random);
            unit(text, random, depth);
        }
    }

    private static void unit(StringBuilder text, Random random, int depth) {
        int kind = random.nextInt(depth > 6 ? 4 : 8);
        if (kind == 7) {
            add(text, "!", random);
            unit(text, random, depth + 1);
        } else if (kind == 6) {
            add(text, "(", random);
            condition(text, random, depth + 1);
            add(text, ")", random);
        } else {
            if (random.nextInt(3) > 0) add(text, letter(random), random);
            else sum(text, random, depth);
            add(text, "" + "=<>".charAt(random.nextInt(3)), random);
            if (random.nextBoolean()) add(text, "" + random.nextInt(random.nextBoolean() ? 6 : 200), random);
            else sum(text, random, depth);
        }
    }

    private static void sum(StringBuilder text, Random random, int depth) {
        term(text, random, depth);
        while (random.nextInt(3) == 0) {
            add(text, random.nextBoolean() ? "+" : "-", random);
            term(text, random, depth);
        }
    }

    private static void term(StringBuilder text, Random random, int depth) {
        atom(text, random, depth);
        while (random.nextInt(3) == 0) {
            add(text, random.nextBoolean() ? "*" : "/", random);
            atom(text, random, depth);
        }
    }

    private static void atom(StringBuilder text, Random random, int depth) {
        int kind = random.nextInt(depth > 6 ? 5 : 6);
        if (kind == 5) {
            add(text, "[", random);
            sum(text, random, depth + 1);
            add(text, "]", random);
        } else if (kind < 3) {
            add(text, letter(random), random);
        } else {
            int most = new int[] {3, 10, 100, 10000}[random.nextInt(4)];
            add(text, (random.nextInt(8) == 0 ? "0" : "") + random.nextInt(Math.min(most, 1000)), random);
            if (random.nextInt(10) == 0) add(text.append(' '), "", random);
        }
    }
}
