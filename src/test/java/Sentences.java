import java.io.IOException;
import java.nio.file.Files;
import java.nio.file.Path;
import java.util.Arrays;
import java.util.function.IntPredicate;

/**
 * What the tests of single sentences share: each test says the promise and the words of ../shared/DOC.md that it
 * holds, and the words are looked up there, so that a sentence without a test, or a test of words that do not
 * stand there, is found.
 */
abstract class Sentences {
    static final int NONE = EveryChild.NONE;
    static final int UNTOLD = -2_000_000;
    static final int MIN = Integer.MIN_VALUE;
    static final int MAX = Integer.MAX_VALUE;
    static final String LABELS = "whstvcf";

    private static final int PROMISES = 51;
    /** The words of the terms (0) and of each promise; which of their bytes stand in words that a test has said. */
    private static final String[] SECTIONS = new String[PROMISES + 1];
    private static final boolean[][] SAID = new boolean[PROMISES + 1][];
    private static int tests;
    private static int checks;
    private static int wrong;
    private static int promise;
    private static String sentence;

    static void read() throws IOException {
        String document = Files.readString(Path.of("../shared/DOC.md"));
        String rest = document.substring(document.indexOf("## Terms"), document.indexOf("## Not promised"));
        for (int n = 0; n <= PROMISES; n++) {
            String next = "## Promise " + (n + 1) + ":";
            int end = n < PROMISES ? rest.indexOf(next) : rest.length();
            SECTIONS[n] = rest.substring(0, end).replaceAll("(?m)^## .*$|^```\\w*$|==== \\d\\.", " ")
                .replaceAll("`[^`]*`:", " ").replaceAll("\\s+", " ");
            SAID[n] = new boolean[SECTIONS[n].length()];
            rest = rest.substring(end);
        }
    }

    /** One test: of words of a promise, or of the terms where that promise shows them. */
    static void holds(int ofPromise, String words, Runnable test) {
        tests++;
        promise = ofPromise;
        sentence = words;
        if (!say(ofPromise, words) && !say(0, words)) fail("these words do not stand in the document");
        try {
            test.run();
        } catch (RuntimeException e) {
            fail("threw " + e);
        }
    }

    private static boolean say(int section, String words) {
        int at = SECTIONS[section].indexOf(words);
        if (at < 0) return false;
        for (int from = at; from >= 0; from = SECTIONS[section].indexOf(words, from + 1))
            Arrays.fill(SAID[section], from, from + words.length(), true);
        return true;
    }

    /** The tests that were wrong, and the words of the document that no test has said. */
    static int finish() {
        for (int n = 0; n <= PROMISES; n++) {
            StringBuilder left = new StringBuilder();
            for (int k = 0; k < SAID[n].length; k++) left.append(SAID[n][k] ? '\n' : SECTIONS[n].charAt(k));
            for (String words : left.toString().split("\n+")) {
                if (!words.matches(".*\\w.*")) continue;
                wrong++;
                System.out.println("no test for " + (n == 0 ? "the terms' \"" : "promise " + n + ": \"") + words.trim() + "\"");
            }
        }
        System.out.println(tests + " sentences, " + checks + " checks, " + wrong + " wrong");
        return wrong;
    }

    private static void fail(String what) {
        wrong++;
        String line = "";
        for (StackTraceElement e : new Throwable().getStackTrace())
            if (line.isEmpty() && e.getFileName() != null && e.getFileName().endsWith("Boundaries.java"))
                line = e.getFileName() + ":" + e.getLineNumber();
        System.out.println("promise " + promise + ", \"" + sentence + "\" (" + line + "): " + what);
    }

    static void due(long want, long got) {
        checks++;
        if (want != got) fail("answered " + got + ", due is " + want);
    }

    static void yes(boolean got) {
        due(1, got ? 1 : 0);
    }

    static void no(boolean got) {
        due(0, got ? 1 : 0);
    }

    /** Taken are the least and the greatest number, not taken the ones beside them and those far out. */
    static void edges(int low, int high, IntPredicate taken) {
        yes(taken.test(low));
        yes(taken.test(high));
        no(taken.test(low - 1));
        no(taken.test(high + 1));
        no(taken.test(MIN));
        no(taken.test(MAX));
    }

    /** Puts a text on an emptied tape. */
    static void write(EveryChild x, String text) {
        x.end(0);
        for (int from = 0; from < text.length(); from += 20) {
            int[] n = new int[5];
            for (int k = 0; k < 20 && from + k < text.length(); k++) n[k / 4] |= text.charAt(from + k) << 24 - 8 * (k % 4);
            x.feed(n[0], n[1], n[2], n[3], n[4]);
        }
    }

    static void law(EveryChild x, int shire, int year, String text) {
        write(x, text);
        int before = x.many(4);
        due(before, x.law(shire, year));
    }

    static int fault(String text) {
        EveryChild x = new EveryChild();
        write(x, text);
        return x.fault();
    }

    /** Makers of all kinds and lorries enough that small schools are built as the next week begins. */
    static EveryChild supplied() {
        EveryChild x = new EveryChild();
        for (int kind = 0; kind < 5; kind++) x.maker(kind, 50, 0, 600);
        for (int k = 0; k < 10; k++) x.lorry(30);
        return x;
    }

    static void pass(EveryChild x, int weeks) {
        int due = x.many(0) + weeks;
        for (int left = weeks; left > 0; left -= 104) x.weeks(Math.min(left, 104));
        due(due, x.many(0));
    }

    /** That as known in q it is refused but for weeks from 0 to now (which is above 0). */
    static void past(EveryChild x, int refused, java.util.function.IntUnaryOperator asked) {
        int now = x.many(0);
        for (int q : new int[] {-1, now + 1, MIN, MAX}) due(refused, asked.applyAsInt(q));
        for (int q : new int[] {0, now}) yes(asked.applyAsInt(q) != refused);
    }
}
