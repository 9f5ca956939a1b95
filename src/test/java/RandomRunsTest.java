import java.util.Arrays;
import java.util.Random;

/** Runs of 512 calls each, drawn from fixed seeds, on the program and on the model beside one another. */
public final class RandomRunsTest {
    private static final String[] CALLS = {
        "weeks", "draw", "walk", "rain", "village", "count", "child", "school", "far", "shut", "schooled", "feed", "end",
        "fault", "law", "worth", "why", "quarrel", "places", "reach", "seated", "unseated", "most", "site", "cover",
        "beyond", "judge", "maker", "lorry", "parts", "promise", "give", "lack", "teacher", "sent", "teacherless",
        "recount", "span", "strength", "roof", "wind", "blame", "treat", "stay", "lender", "bill", "paid", "row", "plan",
        "many"};
    private static final int[] FAR_OUT = {-1, -2, 12, 13, 120, 256, 601, 1000, 1001, 2000, 100001, 1000001,
        Integer.MAX_VALUE, Integer.MIN_VALUE};

    private final Random random;
    private final EveryChild program = new EveryChild();
    private final Model model = new Model();
    private final long[] answers = new long[CALLS.length];
    private final boolean wild;
    /** In how many of the shires things happen in this run. */
    private final int shires;
    private int[] a = new int[8];

    private RandomRunsTest(long seed) {
        random = new Random(seed);
        wild = seed % 5 == 0;
        shires = 1 + random.nextInt(4);
    }

    public static void main(String[] args) {
        int runs = args.length > 0 ? Integer.parseInt(args[0]) : 600;
        int from = args.length > 1 ? Integer.parseInt(args[1]) : 0;
        int wrong = 0;
        long[] kinds = new long[CALLS.length];
        for (int seed = from; seed < from + runs && wrong < 5; seed++) {
            RandomRunsTest run = new RandomRunsTest(seed);
            if (!run.agrees(seed)) wrong++;
            for (int k = 0; k < kinds.length; k++) kinds[k] += run.answers[k];
        }
        for (int k = 0; k < kinds.length; k++) {
            if (kinds[k] == 0 && runs >= 100) {
                System.out.println(CALLS[k] + " was never answered but by a refusal");
                wrong++;
            }
        }
        System.out.println(runs + " random runs, " + wrong + " wrong");
        if (wrong > 0) System.exit(1);
    }

    private boolean agrees(long seed) {
        for (int n = 0; n < 512; n++) {
            String call = next(n);
            long got = 0;
            long want = 0;
            fill(call);
            if (!wild && n < 5) set(n, 20 + random.nextInt(31), random.nextInt(3), 600);
            try {
                got = ask(call, true);
            } catch (RuntimeException e) {
                System.out.println("seed " + seed + " call " + n + ": " + call + Arrays.toString(a) + " threw " + e);
                return false;
            }
            want = ask(call, false);
            if (got != want) {
                System.out.println("seed " + seed + " call " + n + ": " + call + Arrays.toString(a) + " answered " + got
                    + ", the model says " + want);
                return false;
            }
            if (got > 0 || got < -2 && got != -2000000) answers[Arrays.asList(CALLS).indexOf(call)]++;
        }
        return true;
    }

    /** Most runs begin with makers of all kinds and with what there is to ask about, and then ask the dear questions more. */
    private String next(int n) {
        String[] early = {"village", "village", "count", "count", "count", "school", "maker", "lorry", "lorry", "lorry",
            "site", "teacher", "teacher", "draw", "law", "weeks", "lender", "bill", "row", "treat", "treat", "treat", "rain",
            "recount", "promise", "give", "give", "count", "count", "count", "roof", "wind", "shut", "far"};
        String[] dear = {"seated", "unseated", "most", "sent", "teacherless", "stay", "span", "places", "reach", "plan",
            "count", "shut", "law", "weeks", "teacher"};
        if (!wild && n < 5) return "maker";
        if (!wild && n < 90) return early[random.nextInt(early.length)];
        return !wild && random.nextInt(3) == 0 ? dear[random.nextInt(dear.length)] : CALLS[random.nextInt(CALLS.length)];
    }

    private int pick(int low, int high) {
        if (random.nextInt(wild ? 12 : 60) == 0) {
            int edge = random.nextInt(4);
            return edge == 0 ? low : edge == 1 ? high : edge == 2 ? FAR_OUT[random.nextInt(FAR_OUT.length)]
                : random.nextBoolean() ? low - 1 : high + 1;
        }
        return low + random.nextInt(Math.max(1, high - low + 1));
    }

    private int village() {
        return pick(0, model.villages.size() - 1);
    }

    private int school() {
        return pick(0, model.schools.size() - 1);
    }

    private int shire() {
        return pick(0, shires - 1);
    }

    private int orAll(int one) {
        return random.nextInt(4) == 0 ? -1 : one;
    }

    private int week() {
        return random.nextBoolean() ? model.now : pick(0, model.now);
    }

    private int year() {
        return random.nextBoolean() ? model.now / 52 : pick(0, 11);
    }

    private int cell() {
        // most of it happens close together
        return random.nextInt(3) == 0 ? pick(0, 119) : pick(0, 3) + 12 * pick(0, 3);
    }

    private int bits(int many) {
        int all = (1 << many) - 1;
        return random.nextInt(20) == 0 ? pick(0, all) + random.nextInt(3) - 1
            : random.nextInt(3) == 0 ? all : random.nextInt() & random.nextInt() & all;
    }

    private int tongues() {
        return random.nextInt(3) == 0 ? pick(1, 255) : 1 << random.nextInt(8) | 1 << random.nextInt(3);
    }

    private void set(int... values) {
        a = values;
    }

    private void fill(String call) {
        switch (call) {
            case "weeks": set(random.nextInt(6) == 0 ? pick(0, 104) : pick(0, 8)); break;
            case "draw": set(pick(0, 11), pick(0, 9), pick(1, 4), pick(1, 4), pick(1, 99),
                random.nextInt(3) == 0 ? 0 : pick(0, 99)); break;
            case "walk": set(cell(), cell(), pick(0, 1)); break;
            case "rain": int from = Math.min(600, model.now + random.nextInt(12));
                set(random.nextInt(8) == 0 ? pick(0, 600) : Math.max(0, from - 6), random.nextInt(8) == 0 ? pick(0, 600) : from + 1,
                    random.nextInt(3)); break;
            case "village": set(cell(), shire(), pick(0, 7)); break;
            case "count": set(village(), random.nextInt(3) == 0 ? pick(0, 11) : pick(0, 3), pick(0, 120), pick(0, 120)); break;
            case "child": set(village(), pick(0, 11), week(), pick(0, 1)); break;
            case "school": set(cell(), shire(), random.nextInt(5) == 0 ? pick(1, 20) : pick(1, 3), pick(1, 3), tongues()); break;
            case "far": set(school(), random.nextInt(2)); break;
            case "shut": set(school(), random.nextInt(2)); break;
            case "schooled": set(school(), pick(0, 7)); break;
            case "end": set(pick(0, model.tape.length())); break;
            case "feed": feed(); break;
            case "law": set(pick(-1, 3), random.nextInt(3) == 0 ? pick(0, 11) : pick(0, 2)); prepareLaw(); break;
            case "worth": case "why": set(pick(0, 3), pick(0, 11), week(), label(), letter(), pick(0, 7), pick(0, 11), pick(0, 9)); break;
            case "quarrel": set(pick(0, 3), pick(0, 11), week()); break;
            case "places": set(school(), week(), week()); break;
            case "reach": set(village(), school(), week(), week()); break;
            case "seated": set(village(), orAll(school()), week(), week()); break;
            case "unseated": set(orAll(village()), week(), week()); break;
            case "most": set(week(), week()); break;
            case "site": set(cell()); break;
            case "cover": case "beyond": set(bits(model.villages.size()), pick(0, 600)); break;
            case "judge": case "plan": set(bits(model.sites.size()), bits(model.villages.size()), pick(0, 600)); break;
            case "maker": int at = pick(0, 60); set(pick(0, 4), pick(1, 50), at, random.nextInt(8) == 0 ? pick(0, 600) : 600); break;
            case "lorry": set(pick(1, 30)); break;
            case "parts": set(orAll(school()), pick(0, 4)); break;
            case "promise": set(village(), school()); break;
            case "give": set(village(), school(), random.nextInt(4) == 0 ? pick(1, 1000) : pick(1, 90)); break;
            case "lack": set(school()); break;
            case "teacher": int in = pick(0, 5); set(in, pick(0, 9), tongues(), in + 1 + random.nextInt(12 - in < 1 ? 1 : Math.min(12, 12 - in))); break;
            case "sent": set(pick(0, model.teachers.size() - 1), week(), week()); break;
            case "teacherless": set(orAll(school()), week(), week()); break;
            case "recount": set(village(), pick(0, 3), random.nextInt(5) == 0 ? pick(0, 1998) : pick(0, 240)); break;
            case "span": set(shire(), pick(0, 4), week(), pick(0, 1)); break;
            case "strength": set(pick(0, 4), pick(1, 200)); break;
            case "roof": set(school(), pick(0, 4), pick(0, model.makers.size() - 1)); break;
            case "wind": set(shire(), random.nextInt(2) == 0 ? pick(1, 300) : pick(80, 110)); break;
            case "treat": set(village(), random.nextInt(3) == 0 ? pick(0, 11) : pick(0, 2)); break;
            case "stay": set(shire(), random.nextInt(3) == 0 ? pick(1, 11) : pick(1, 3), week()); break;
            case "lender": set(random.nextBoolean() ? pick(0, 1000) : pick(0, 1000000)); break;
            case "bill": set(pick(0, 7), random.nextBoolean() ? pick(1, 500) : pick(1, 100000)); break;
            case "paid": set(year(), pick(0, 1)); break;
            case "row": set(number(), number()); break;
            case "many": set(pick(0, 17)); break;
            default: set(); break;
        }
    }

    private int number() {
        int most = random.nextInt(3) == 0 ? 10 : 2;
        return random.nextInt(40) == 0 ? random.nextInt()
            : random.nextInt(most) << 24 | random.nextInt(most) << 16 | random.nextInt(most) << 8 | random.nextInt(most);
    }

    private int label() {
        return random.nextInt(30) == 0 ? pick(0, 255) : "whstvcf".charAt(random.nextInt(7));
    }

    private int letter() {
        return random.nextInt(20) == 0 ? random.nextInt() : pick(0, 240);
    }

    /** A piece of a text, or of nothing sensible, in five numbers. */
    private void feed() {
        String text = random.nextInt(4) == 0 ? Laws.wrong(random) : Laws.text(random);
        int from = random.nextInt(3) == 0 ? random.nextInt(text.length()) : 0;
        set(Laws.numbers(text.substring(from), random));
    }

    /** Most laws are to be taken: the tape is laid anew for them. */
    private void prepareLaw() {
        if (random.nextInt(8) == 0) return;
        String text = random.nextInt(10) == 0 ? Laws.wrong(random) : Laws.text(random);
        program.end(0);
        model.end(0);
        for (int from = 0; from < text.length(); from += 20) {
            int[] n = Laws.numbers(text.substring(from), random);
            while (Laws.held(n) < Math.min(20, text.length() - from)) n = Laws.numbers(text.substring(from), random);
            program.feed(n[0], n[1], n[2], n[3], n[4]);
            model.feed(n);
            if (program.fault() != model.fault()) throw new IllegalStateException("fault of " + text);
        }
    }

    private static long one(boolean is) {
        return is ? 1 : 0;
    }

    private long ask(String call, boolean real) {
        EveryChild x = program;
        Model m = model;
        switch (call) {
            case "weeks": return real ? x.weeks(a[0]) : m.weeks(a[0]);
            case "draw": return one(real ? x.draw(a[0], a[1], a[2], a[3], a[4], a[5]) : m.draw(a[0], a[1], a[2], a[3], a[4], a[5]));
            case "walk": return real ? x.walk(a[0], a[1], a[2]) : m.walk(a[0], a[1], a[2]);
            case "rain": return one(real ? x.rain(a[0], a[1], a[2] > 0) : m.rain(a[0], a[1], a[2] > 0));
            case "village": return real ? x.village(a[0], a[1], a[2]) : m.village(a[0], a[1], a[2]);
            case "count": return one(real ? x.count(a[0], a[1], a[2], a[3]) : m.count(a[0], a[1], a[2], a[3]));
            case "child": return real ? x.child(a[0], a[1], a[2], a[3]) : m.child(a[0], a[1], a[2], a[3]);
            case "school": return real ? x.school(a[0], a[1], a[2], a[3], a[4]) : m.school(a[0], a[1], a[2], a[3], a[4]);
            case "far": return one(real ? x.far(a[0], a[1] > 0) : m.far(a[0], a[1] > 0));
            case "shut": return one(real ? x.shut(a[0], a[1] > 0) : m.shut(a[0], a[1] > 0));
            case "schooled": return real ? x.schooled(a[0], a[1]) : m.schooled(a[0], a[1]);
            case "feed": return real ? x.feed(a[0], a[1], a[2], a[3], a[4]) : m.feed(a);
            case "end": return one(real ? x.end(a[0]) : m.end(a[0]));
            case "fault": return real ? x.fault() : m.fault();
            case "law": return real ? x.law(a[0], a[1]) : m.law(a[0], a[1]);
            case "worth": return real ? x.worth(a[0], a[1], a[2], a[3], a[4], a[5], a[6], a[7])
                : m.worth(a[0], a[1], a[2], a[3], a[4], a[5], a[6], a[7]);
            case "why": return real ? x.why(a[0], a[1], a[2], a[3], a[4], a[5], a[6], a[7])
                : m.why(a[0], a[1], a[2], a[3], a[4], a[5], a[6], a[7]);
            case "quarrel": return real ? x.quarrel(a[0], a[1], a[2]) : m.quarrel(a[0], a[1], a[2]);
            case "places": return real ? x.places(a[0], a[1], a[2]) : m.places(a[0], a[1], a[2]);
            case "reach": return real ? x.reach(a[0], a[1], a[2], a[3]) : m.reach(a[0], a[1], a[2], a[3]);
            case "seated": return real ? x.seated(a[0], a[1], a[2], a[3]) : m.seated(a[0], a[1], a[2], a[3]);
            case "unseated": return real ? x.unseated(a[0], a[1], a[2]) : m.unseated(a[0], a[1], a[2]);
            case "most": return real ? x.most(a[0], a[1]) : m.most(a[0], a[1]);
            default: return askMore(call, real, x, m);
        }
    }

    private long askMore(String call, boolean real, EveryChild x, Model m) {
        switch (call) {
            case "site": return real ? x.site(a[0]) : m.site(a[0]);
            case "cover": return real ? x.cover(a[0], a[1]) : m.cover(a[0], a[1]);
            case "beyond": return real ? x.beyond(a[0], a[1]) : m.beyond(a[0], a[1]);
            case "judge": return real ? x.judge(a[0], a[1], a[2]) : m.judge(a[0], a[1], a[2]);
            case "maker": return real ? x.maker(a[0], a[1], a[2], a[3]) : m.maker(a[0], a[1], a[2], a[3]);
            case "lorry": return real ? x.lorry(a[0]) : m.lorry(a[0]);
            case "parts": return real ? x.parts(a[0], a[1]) : m.parts(a[0], a[1]);
            case "promise": return one(real ? x.promise(a[0], a[1]) : m.promise(a[0], a[1]));
            case "give": return one(real ? x.give(a[0], a[1], a[2]) : m.give(a[0], a[1], a[2]));
            case "lack": return real ? x.lack(a[0]) : m.lack(a[0]);
            case "teacher": return real ? x.teacher(a[0], a[1], a[2], a[3]) : m.teacher(a[0], a[1], a[2], a[3]);
            case "sent": return real ? x.sent(a[0], a[1], a[2]) : m.sent(a[0], a[1], a[2]);
            case "teacherless": return real ? x.teacherless(a[0], a[1], a[2]) : m.teacherless(a[0], a[1], a[2]);
            case "recount": return one(real ? x.recount(a[0], a[1], a[2]) : m.recount(a[0], a[1], a[2]));
            case "span": return real ? x.span(a[0], a[1], a[2], a[3]) : m.span(a[0], a[1], a[2], a[3]);
            case "strength": return one(real ? x.strength(a[0], a[1]) : m.strength(a[0], a[1]));
            case "roof": return one(real ? x.roof(a[0], a[1], a[2]) : m.roof(a[0], a[1], a[2]));
            case "wind": return real ? x.wind(a[0], a[1]) : m.wind(a[0], a[1]);
            case "blame": return real ? x.blame() : m.blame();
            case "treat": return one(real ? x.treat(a[0], a[1]) : m.treat(a[0], a[1]));
            case "stay": return real ? x.stay(a[0], a[1], a[2]) : m.stay(a[0], a[1], a[2]);
            case "lender": return real ? x.lender(a[0]) : m.lender(a[0]);
            case "bill": return one(real ? x.bill(a[0], a[1]) : m.bill(a[0], a[1]));
            case "paid": return real ? x.paid(a[0], a[1]) : m.paid(a[0], a[1]);
            case "row": return real ? x.row(a[0], a[1]) : m.row(a[0], a[1]);
            case "plan": return real ? x.plan(a[0], a[1], a[2]) : m.plan(a[0], a[1], a[2]);
            case "many": return real ? x.many(a[0]) : m.many(a[0]);
            default: throw new IllegalStateException(call);
        }
    }
}
