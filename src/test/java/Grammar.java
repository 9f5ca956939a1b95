import java.util.ArrayDeque;
import java.util.ArrayList;
import java.util.Deque;
import java.util.HashSet;
import java.util.List;
import java.util.Set;

/**
 * The grammar of laws, for the tests: FAULT by its words ("the first byte at which no text can go on"), from all
 * stacks of symbols that the bytes so far allow; WORTH from the text itself.
 */
final class Grammar {
    private static final String LABELS = "whstvcf";
    private static final String LETTERS = "yinlxr";

    private Grammar() { }

    /** What is still to come, its beginning first, and how many of ( [ ! stand open. */
    private record Rest(String symbols, int open) { }

    private static final String[][] RULES = {
        {"T", "CG"}, {"G", "", ";CG"},
        {"C", "a:S", "a:K?S"},
        {"K", "Rk"}, {"k", "", "|Rk"},
        {"R", "Uu"}, {"u", "", "&Uu"},
        {"U", "!Uv", "(K)", "SrS"},
        {"S", "Mm"}, {"m", "", "+Mm", "-Mm"},
        {"M", "Qq"}, {"q", "", "*Qq", "/Qq"},
        {"Q", "d", "e", "[S]"},
    };

    static int fault(String text) {
        Set<Rest> rests = new HashSet<>();
        rests.add(new Rest("T", 0));
        for (int i = 0; i < text.length(); i++) {
            Set<Rest> next = new HashSet<>();
            for (Rest rest : closure(rests)) eat(rest, text.charAt(i), next);
            if (next.isEmpty()) return i;
            rests = next;
        }
        for (Rest rest : closure(rests)) if (rest.symbols.isEmpty()) return -1;
        return text.length();
    }

    /** All rests whose first symbol is to be met by a byte, or that are empty. */
    private static Set<Rest> closure(Set<Rest> rests) {
        Set<Rest> seen = new HashSet<>(rests);
        Deque<Rest> todo = new ArrayDeque<>(rests);
        while (!todo.isEmpty()) {
            Rest rest = todo.poll();
            if (rest.symbols.isEmpty()) continue;
            char first = rest.symbols.charAt(0);
            String tail = rest.symbols.substring(1);
            List<Rest> more = new ArrayList<>();
            if (first == 'v') more.add(new Rest(tail, rest.open - 1));
            if (first >= '1' && first <= '3') more.add(new Rest(tail, rest.open));
            for (String[] rule : RULES)
                if (rule[0].charAt(0) == first)
                    for (int k = 1; k < rule.length; k++) more.add(new Rest(rule[k] + tail, rest.open));
            for (Rest r : more) if (seen.add(r)) todo.add(r);
        }
        return seen;
    }

    private static void eat(Rest rest, char sign, Set<Rest> next) {
        if (rest.symbols.isEmpty()) {
            if (sign == ' ') next.add(rest);
            return;
        }
        char first = rest.symbols.charAt(0);
        String tail = rest.symbols.substring(1);
        boolean digit = sign >= '0' && sign <= '9';
        if (first >= '1' && first <= '3') {
            // inside a number: so many digits may follow
            if (digit) next.add(new Rest(first == '1' ? tail : (char) (first - 1) + tail, rest.open));
            return;
        }
        if (first == 'v' || Character.isUpperCase(first) || "gkumq".indexOf(first) >= 0) return;
        if (sign == ' ') {
            next.add(rest);
        } else if (first == 'a') {
            if (LABELS.indexOf(sign) >= 0) next.add(new Rest(tail, rest.open));
        } else if (first == 'd') {
            if (digit) next.add(new Rest("3" + tail, rest.open));
        } else if (first == 'e') {
            if (LETTERS.indexOf(sign) >= 0) next.add(new Rest(tail, rest.open));
        } else if (first == 'r') {
            if ("=<>".indexOf(sign) >= 0) next.add(new Rest(tail, rest.open));
        } else if (first == sign) {
            int open = rest.open + ("([!".indexOf(sign) >= 0 ? 1 : 0) - (")]".indexOf(sign) >= 0 ? 1 : 0);
            if (open <= 6) next.add(new Rest(tail, open));
        }
    }

    /** The worth of a label in a text without a fault; null if none of its clauses holds. */
    static Long worth(String text, char label, int[] letters) {
        for (String clause : text.replace(" ", "").split(";")) {
            if (clause.charAt(0) != label) continue;
            String body = clause.substring(2);
            int mark = body.indexOf('?');
            if (mark < 0 || holds(body.substring(0, mark), letters)) return sum(body.substring(mark + 1), letters);
        }
        return null;
    }

    /** Cuts a text at the signs that stand in no bracket. */
    private static List<String> cut(String text, String signs, StringBuilder found) {
        List<String> parts = new ArrayList<>();
        int open = 0;
        int from = 0;
        for (int i = 0; i < text.length(); i++) {
            char c = text.charAt(i);
            if (c == '(' || c == '[') open++;
            if (c == ')' || c == ']') open--;
            if (open == 0 && signs.indexOf(c) >= 0) {
                parts.add(text.substring(from, i));
                found.append(c);
                from = i + 1;
            }
        }
        parts.add(text.substring(from));
        return parts;
    }

    private static boolean holds(String text, int[] letters) {
        List<String> parts = cut(text, "|", new StringBuilder());
        if (parts.size() > 1) return parts.stream().anyMatch(p -> holds(p, letters));
        List<String> units = cut(text, "&", new StringBuilder());
        if (units.size() > 1) return units.stream().allMatch(u -> holds(u, letters));
        if (text.charAt(0) == '!') return !holds(text.substring(1), letters);
        if (text.charAt(0) == '(') return holds(text.substring(1, text.length() - 1), letters);
        StringBuilder sign = new StringBuilder();
        List<String> sides = cut(text, "=<>", sign);
        int way = Long.compare(sum(sides.get(0), letters), sum(sides.get(1), letters));
        return sign.charAt(0) == '=' ? way == 0 : sign.charAt(0) == '<' ? way < 0 : way > 0;
    }

    private static long sum(String text, int[] letters) {
        StringBuilder signs = new StringBuilder();
        List<String> terms = cut(text, "+-", signs);
        long value = term(terms.get(0), letters);
        for (int i = 1; i < terms.size(); i++) {
            long next = term(terms.get(i), letters);
            value = bound(signs.charAt(i - 1) == '+' ? value + next : value - next);
        }
        return value;
    }

    private static long term(String text, int[] letters) {
        StringBuilder signs = new StringBuilder();
        List<String> atoms = cut(text, "*/", signs);
        long value = atom(atoms.get(0), letters);
        for (int i = 1; i < atoms.size(); i++) {
            long next = atom(atoms.get(i), letters);
            value = bound(signs.charAt(i - 1) == '*' ? value * next : next == 0 ? 0 : value / next);
        }
        return value;
    }

    private static long atom(String text, int[] letters) {
        char first = text.charAt(0);
        if (first == '[') return sum(text.substring(1, text.length() - 1), letters);
        return LETTERS.indexOf(first) >= 0 ? letters[LETTERS.indexOf(first)] : Long.parseLong(text);
    }

    private static long bound(long value) {
        return Math.max(-1_000_000, Math.min(1_000_000, value));
    }
}
