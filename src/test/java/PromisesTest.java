/** Each promise by hand: ordinary inputs, the edges that the document names, wrong inputs. */
public final class PromisesTest {
    private static final int NONE = EveryChild.NONE;
    private static final int UNTOLD = -2000000;
    private static int wrong = 0;
    private static int checks = 0;
    private static int promise = 0;

    public static void main(String[] args) {
        newObject();
        weeks();
        land();
        villagesAndCounts();
        schools();
        texts();
        laws();
        worths();
        quarrels();
        places();
        reach();
        seating();
        most();
        sites();
        parts();
        giving();
        teachers();
        recounts();
        roofs();
        stay();
        lenders();
        plans();
        many();
        System.out.println(checks + " checks, " + wrong + " wrong");
        if (wrong != 0) System.exit(1);
    }

    private static void due(String what, long want, long got) {
        checks++;
        if (got != want) {
            wrong++;
            System.out.println("promise " + promise + ": " + what + " answered " + got + ", due is " + want);
        }
    }

    private static void yes(String what, boolean got) {
        due(what, 1, got ? 1 : 0);
    }

    private static void no(String what, boolean got) {
        due(what, 0, got ? 1 : 0);
    }

    /** Puts a text on an emptied tape. */
    private static void write(EveryChild x, String text) {
        x.end(0);
        for (int from = 0; from < text.length(); from += 20) {
            int[] n = new int[5];
            for (int k = 0; k < 20 && from + k < text.length(); k++) n[k / 4] |= text.charAt(from + k) << 24 - 8 * (k % 4);
            x.feed(n[0], n[1], n[2], n[3], n[4]);
        }
    }

    private static int law(EveryChild x, int shire, int year, String text) {
        write(x, text);
        return x.law(shire, year);
    }

    private static int fault(String text) {
        EveryChild x = new EveryChild();
        write(x, text);
        return x.fault();
    }

    private static int worth(String sum, int n, int l, int x, int r) {
        EveryChild land = new EveryChild();
        due("law of w:" + sum, 0, law(land, 2, 3, "w:" + sum));
        return land.worth(2, 4, 0, 'w', n, l, x, r);
    }

    /** Makers of all kinds and lorries enough that any school is built as the next week begins. */
    private static void supply(EveryChild x) {
        for (int kind = 0; kind < 5; kind++) x.maker(kind, 50, 0, 600);
        for (int k = 0; k < 10; k++) x.lorry(30);
    }

    private static void newObject() {
        promise = 1;
        EveryChild x = new EveryChild();
        due("NONE", -1, EveryChild.NONE);
        for (int what = 0; what <= 17; what++) due("many(" + what + ")", 0, x.many(what));
        due("worth of w", 60, x.worth(0, 0, 0, 'w', 0, 0, 0, 0));
        due("blame", NONE, x.blame());
    }

    private static void weeks() {
        promise = 2;
        EveryChild x = new EveryChild();
        due("weeks(0)", 0, x.weeks(0));
        due("weeks(-1)", NONE, x.weeks(-1));
        due("weeks(105)", NONE, x.weeks(105));
        due("weeks(104)", 104, x.weeks(104));
        for (int k = 2; k <= 5; k++) due("weeks(104)", 104 * k, x.weeks(104));
        due("weeks(81)", NONE, x.weeks(81));
        due("now", 520, x.many(0));
        due("weeks(80)", 600, x.weeks(80));
        due("weeks(1)", NONE, x.weeks(1));
        due("weeks(0)", 600, x.weeks(0));
        due("weeks(greatest)", NONE, x.weeks(Integer.MAX_VALUE));
    }

    private static void land() {
        promise = 4;
        EveryChild x = new EveryChild();
        due("walk(0, 119, 0)", 200, x.walk(0, 119, 0));
        due("walk(0, 119, 1)", 300, x.walk(0, 119, 1));
        due("walk(11, 12, 0): a line's end is not beside the next line's beginning", 120, x.walk(11, 12, 0));
        due("walk(7, 7, 1)", 0, x.walk(7, 7, 1));
        due("walk(-1, 0, 0)", NONE, x.walk(-1, 0, 0));
        due("walk(0, 120, 0)", NONE, x.walk(0, 120, 0));
        due("walk(0, 1, 2)", NONE, x.walk(0, 1, 2));
        due("walk(0, 1, -1)", NONE, x.walk(0, 1, -1));
        promise = 3;
        yes("a wall", x.draw(5, 0, 1, 10, 99, 0));
        due("through it, dry", 99 + 20, x.walk(4, 7, 0) + 0L);
        due("through it, wet", NONE, x.walk(4, 7, 1));
        due("onto it, wet", NONE, x.walk(4, 5, 1));
        due("from it, wet", 15, x.walk(5, 4, 1));
        due("it stays where it is", 0, x.walk(5, 5, 1));
        yes("a gate", x.draw(5, 9, 1, 1, 1, 99));
        due("by the gate", 8 * 15 * 2 + 15 + 15 + 99 + 15 + 15, x.walk(4, 7, 1));
        yes("all", x.draw(0, 0, 12, 10, 1, 1));
        due("all of it", 20, x.walk(0, 119, 1));
        no("x", x.draw(-1, 0, 1, 1, 5, 5));
        no("x", x.draw(12, 0, 1, 1, 5, 5));
        no("y", x.draw(0, -1, 1, 1, 5, 5));
        no("y", x.draw(0, 10, 1, 1, 5, 5));
        no("w", x.draw(0, 0, 13, 1, 5, 5));
        no("w", x.draw(0, 0, 0, 1, 5, 5));
        no("w", x.draw(1, 0, Integer.MAX_VALUE, 1, 5, 5));
        no("h", x.draw(0, 1, 1, 10, 5, 5));
        no("h", x.draw(0, 0, 1, 0, 5, 5));
        no("dry", x.draw(0, 0, 1, 1, 0, 5));
        no("dry", x.draw(0, 0, 1, 1, 100, 5));
        no("wet", x.draw(0, 0, 1, 1, 5, -1));
        no("wet", x.draw(0, 0, 1, 1, 5, 100));
        due("nothing was drawn by these", 20, x.walk(0, 119, 0));
        rains();
    }

    private static void rains() {
        promise = 5;
        EveryChild x = new EveryChild();
        x.village(0, 0, 0);
        x.school(4, 0, 1, 1, 1);
        law(x, 0, 0, "w:40");
        x.weeks(10);
        yes("rain", x.rain(3, 5, true));
        for (int week = 0; week <= 10; week++) due("reach in " + week, week < 3 || week > 5 ? 1 : 0, x.reach(0, 0, week, 10));
        yes("dry again", x.rain(4, 4, false));
        due("reach in 4", 1, x.reach(0, 0, 4, 0));
        due("reach in 5", 0, x.reach(0, 0, 5, 0));
        yes("as far as it goes", x.rain(0, 600, false));
        due("reach in 5", 1, x.reach(0, 0, 5, 0));
        no("from", x.rain(-1, 5, true));
        no("to", x.rain(0, 601, true));
        no("to ahead of from", x.rain(5, 4, true));
        due("reach in 0", 1, x.reach(0, 0, 0, 0));
    }

    private static void villagesAndCounts() {
        promise = 6;
        EveryChild x = new EveryChild();
        due("cell", NONE, x.village(120, 0, 0));
        due("cell", NONE, x.village(-1, 0, 0));
        due("shire", NONE, x.village(0, 4, 0));
        due("shire", NONE, x.village(0, -1, 0));
        due("tongue", NONE, x.village(0, 0, 8));
        due("tongue", NONE, x.village(0, 0, -1));
        for (int v = 0; v < 24; v++) due("village", v, x.village(119, 3, 7));
        due("a 25th", NONE, x.village(0, 0, 0));
        promise = 7;
        no("village", x.count(24, 0, 1, 1));
        no("village", x.count(-1, 0, 1, 1));
        no("year", x.count(0, 12, 1, 1));
        no("year", x.count(0, -1, 1, 1));
        no("girls", x.count(0, 0, 1000, 1));
        no("girls", x.count(0, 0, -1, 1));
        no("boys", x.count(0, 0, 1, 1000));
        no("boys", x.count(0, 0, 1, -1));
        due("none", 0, x.child(0, 11, 0, 0));
        yes("count", x.count(0, 2, 7, 8));
        yes("count", x.count(0, 11, 999, 0));
        yes("count", x.count(0, 4, 5, 6));
        x.weeks(5);
        yes("count, told again", x.count(0, 2, 1, 999));
        promise = 8;
        due("ahead of it", 0, x.child(0, 1, 5, 0));
        due("as known in 4", 7, x.child(0, 2, 4, 0));
        due("as known in 4", 8, x.child(0, 3, 4, 1));
        due("as known in 5", 1, x.child(0, 2, 5, 0));
        due("as known in 5", 999, x.child(0, 3, 5, 1));
        due("the greater year wins, though told ahead", 5, x.child(0, 10, 5, 0));
        due("of 11", 999, x.child(0, 11, 5, 0));
        due("village", NONE, x.child(24, 0, 0, 0));
        due("village", NONE, x.child(-1, 0, 0, 0));
        due("year", NONE, x.child(0, 12, 0, 0));
        due("year", NONE, x.child(0, -1, 0, 0));
        due("q", NONE, x.child(0, 0, 6, 0));
        due("q", NONE, x.child(0, 0, -1, 0));
        due("what", NONE, x.child(0, 0, 0, 2));
        due("what", NONE, x.child(0, 0, 0, -1));
        promise = 7;
        for (int k = 4; k < 200; k++) yes("count " + k, x.count(1, 0, k, 0));
        no("a 201st", x.count(1, 0, 1, 0));
        due("counts", 200, x.many(5));
        due("the last", 199, x.child(1, 0, 5, 0));
    }

    private static void schools() {
        promise = 9;
        EveryChild x = new EveryChild();
        due("cell", NONE, x.school(120, 0, 1, 1, 1));
        due("shire", NONE, x.school(0, 4, 1, 1, 1));
        due("shire", NONE, x.school(0, -1, 1, 1, 1));
        due("rooms", NONE, x.school(0, 0, 0, 1, 1));
        due("rooms", NONE, x.school(0, 0, 21, 1, 1));
        due("shifts", NONE, x.school(0, 0, 1, 0, 1));
        due("shifts", NONE, x.school(0, 0, 1, 4, 1));
        due("tongues", NONE, x.school(0, 0, 1, 1, 0));
        due("tongues", NONE, x.school(0, 0, 1, 1, 256));
        for (int s = 0; s < 20; s++) due("school", s, x.school(100 + s, s % 4, 20, 3, 255));
        due("a 21st", NONE, x.school(0, 0, 1, 1, 1));
        promise = 12;
        int[] of3 = {NONE, 0, 20, 3, 255, 103, 3, 0};
        for (int what = 0; what < 8; what++) due("schooled(3, " + what + ")", of3[what], x.schooled(3, what));
        due("what", NONE, x.schooled(3, 8));
        due("what", NONE, x.schooled(3, -1));
        due("school", NONE, x.schooled(20, 2));
        due("school", NONE, x.schooled(-1, 2));
        promise = 10;
        no("is not far", x.far(3, false));
        yes("far", x.far(3, true));
        no("is far", x.far(3, true));
        yes("near", x.far(3, false));
        no("school", x.far(20, true));
        no("school", x.far(-1, true));
        promise = 11;
        no("is not shut", x.shut(3, false));
        yes("shut", x.shut(3, true));
        no("is shut", x.shut(3, true));
        due("schooled(3, 1)", 1, x.schooled(3, 1));
        due("schooled(4, 1)", 0, x.schooled(4, 1));
        yes("opened", x.shut(3, false));
        due("schooled(3, 1)", 0, x.schooled(3, 1));
        no("school", x.shut(20, true));
        no("school", x.shut(-1, true));
        promise = 12;
        EveryChild y = new EveryChild();
        supply(y);
        y.school(0, 0, 1, 1, 1);
        y.weeks(3);
        due("built in the first week", 1, y.schooled(0, 0));
    }

    private static void texts() {
        promise = 13;
        EveryChild x = new EveryChild();
        due("nothing", 0, x.feed(0, 0, 0, 0, 0));
        due("zeros are left out", 3, x.feed('w' << 24 | ':', 0, 0, 0, '1'));
        due("the text is whole", NONE, x.fault());
        x.end(0);
        due("a text that begins in the last number", 4, x.feed(0, 0, 0, 0, 'w' << 24 | ':' << 16 | 'n' << 8 | ' '));
        x.end(0);
        for (int k = 1; k <= 7; k++) due("twenty more", 20 * k, x.feed(-1, -1, -1, -1, -1));
        due("nineteen more", 159, x.feed(-1, -1, -1, -1, 0x00ffffff));
        due("two more", NONE, x.feed(0, 0x00010001, 0, 0, 0));
        due("as it was", 159, x.many(16));
        due("one more", 160, x.feed(0, 0, 1, 0, 0));
        due("one more", NONE, x.feed(0, 0, 1, 0, 0));
        due("none more", 160, x.feed(0, 0, 0, 0, 0));
        promise = 14;
        no("end", x.end(161));
        no("end", x.end(-1));
        yes("end", x.end(160));
        yes("end", x.end(7));
        due("tape", 7, x.many(16));
        no("end", x.end(8));
        yes("end", x.end(0));
        promise = 15;
        faults();
    }

    private static void faults() {
        String[] right = {"w:1", "h:0", "s:9999", "t:y", "v:i+n", "c:l*x/r-1", "f:[1]", "w:1=1?1", "w:(1=1)?1", "w:!1=1?1",
            "w:1;w:2", "w : 1 + 2 ; h : [ 3 ] ", " w:1", "w:1=1&2<3|4>5?6", "w:[[[[[[1]]]]]]", "w:((((((1=1))))))?1",
            "w:!!!!!!1=1?1", "w:!(!(!(1=1)))?1", "w:([1]+[1]=[1])&([1]=1)?[1]", "w:1+2=3?4", "w:[1+2]*3=9?4"};
        for (String text : right) due(text, NONE, fault(text));
        Object[][] spoilt = {
            {"", 0}, {"  ", 2}, {"w", 1}, {"w:", 2}, {"w: ", 3}, {"q", 0}, {"y:1", 0}, {"w;", 1}, {"ww", 1}, {"w:1;", 4},
            {"w:1;q", 4}, {"w:1 2", 4}, {"w:12345", 6}, {"w:1234 5", 7}, {"w:q", 2}, {"w:w", 2}, {"w:+", 2}, {"w:1+", 4},
            {"w:1++", 4}, {"w:1?2", 3}, {"w:1=2", 5}, {"w:1=2;", 5}, {"w:1=2=3", 5}, {"w:1=2?", 6}, {"w:1=2?3?", 7},
            {"w:1=2?3=", 7}, {"w:1=2?(", 6}, {"w:1=2?!", 6}, {"w:(1)", 4}, {"w:(1=1)", 7}, {"w:(1=1)=", 7}, {"w:(1=1)+", 7},
            {"w:(1=1;", 6}, {"w:(1=1?", 6}, {"w:(", 3}, {"w:()", 3}, {"w:[", 3}, {"w:[1", 4}, {"w:[1=", 4}, {"w:[1)", 4},
            {"w:[(", 3}, {"w:[!", 3}, {"w:1+(", 4}, {"w:1+!", 4}, {"w:1=(", 4}, {"w:1&", 3}, {"w:1=1&", 6}, {"w:1=1&1", 7},
            {"w:1=1&1;", 7}, {"w:1=1&1?", 7}, {"w:1=1|", 6}, {"w:!", 3}, {"w:!1", 4}, {"w:!1;", 4}, {"w:!1=1;", 6}, {"w:1]", 3},
            {"w:1)", 3}, {"w:[[[[[[[1", 8}, {"w:(((((([1", 8}, {"w:!!!!!!!1", 8}, {"w:!(![[[[1", 8}, {"w:!(!(!([1", 8}, {"w:1=[[[[[[[", 10},
            {"w:((((((!", 8}, {"w:!!!!!!(", 8}, {"w:!!!!!![", 8}, {"w:\u00e9", 2}, {"w:\t1", 2}, {"w:1\n", 3}, {"W:1", 0},
            {"w:-1", 2}, {"w:1/0/", 6}, {"w:1 = = 1", 6}, {"w:x y", 4}, {"w:xy", 3}, {"w:1x", 3}, {"w:x1", 3}, {"w:1[", 3}};
        for (Object[] one : spoilt) due(one[0].toString(), (Integer) one[1], fault((String) one[0]));
        due("a tape full of clauses", NONE, fault("w:1;".repeat(39) + "w:23"));
        due("and a clause less", 156, fault("w:1;".repeat(39)));
        due("a full tape that ends too early", 160, fault("w:1;".repeat(40)));
    }

    private static void laws() {
        promise = 16;
        EveryChild x = new EveryChild();
        due("an empty tape", NONE, x.law(0, 0));
        write(x, "w:7");
        due("shire", NONE, x.law(4, 0));
        due("shire", NONE, x.law(-2, 0));
        due("year", NONE, x.law(0, 12));
        due("year", NONE, x.law(0, -1));
        due("the tape stays", 3, x.many(16));
        due("law", 0, x.law(3, 11));
        due("the tape is empty", 0, x.many(16));
        write(x, "w:7;");
        due("a fault", NONE, x.law(0, 0));
        due("the tape stays", 4, x.many(16));
        for (int k = 1; k < 20; k++) due("law", k, law(x, NONE, 0, "w:" + k));
        write(x, "w:7");
        due("a 21st", NONE, x.law(0, 0));
        due("the tape stays", 3, x.many(16));
        due("laws", 20, x.many(4));
    }

    private static void worths() {
        promise = 17;
        due("a number", 9999, worth("9999", 0, 0, 0, 0));
        due("a number with zeros", 7, worth("0007", 0, 0, 0, 0));
        due("from the left", 5, worth("10-3-2", 0, 0, 0, 0));
        due("from the left", 2, worth("12/3/2", 0, 0, 0, 0));
        due("* ahead of +", 14, worth("2+3*4", 0, 0, 0, 0));
        due("in brackets", 20, worth("[2+3]*4", 0, 0, 0, 0));
        due("/ cuts towards 0", -2, worth("[0-5]/2", 0, 0, 0, 0));
        due("/ by 0", 0, worth("7/[n-n]", 3, 0, 0, 0));
        due("to a million", 1000000, worth("9999*9999", 0, 0, 0, 0));
        due("to a million behind each sign", 0, worth("9999*9999-9999*9999", 0, 0, 0, 0));
        due("to a million behind each sign", 9900, worth("9999*9999-9999*101+9900", 0, 0, 0, 0));
        due("from minus a million", -1000000, worth("0-9999*9999-9999", 0, 0, 0, 0));
        due("great letters", 1000000, worth("n*n", Integer.MAX_VALUE, 0, 0, 0));
        due("great letters", -1000000, worth("n+n", Integer.MIN_VALUE, 0, 0, 0));
        due("great letters", 1000000, worth("n/[0-1]", Integer.MIN_VALUE, 0, 0, 0));
        due("y i n l x r", 425678, worth("[[[[y*10+i]*10+n]*10+l]*10+x]*10+r", 5, 6, 7, 8));
        due("y", 4, worth("y", 0, 0, 0, 0));
        due("i", 2, worth("i", 0, 0, 0, 0));
        due("n", 5, worth("n", 5, 6, 7, 8));
        due("l", 6, worth("l", 5, 6, 7, 8));
        due("x", 7, worth("x", 5, 6, 7, 8));
        due("r", 8, worth("r", 5, 6, 7, 8));
        due("=", 1, worth("n=5?1;w:2", 5, 0, 0, 0));
        due("<", 2, worth("n<5?1;w:2", 5, 0, 0, 0));
        due(">", 2, worth("n>5?1;w:2", 5, 0, 0, 0));
        due("& ahead of |", 1, worth("n=5|n=6&n=7?1;w:2", 5, 0, 0, 0));
        due("& ahead of |", 2, worth("(n=5|n=6)&n=7?1;w:2", 5, 0, 0, 0));
        due("! of a unit alone", 1, worth("!n=5|n=5?1;w:2", 5, 0, 0, 0));
        due("! of a unit alone", 2, worth("!n=5&n=5?1;w:2", 5, 0, 0, 0));
        due("! !", 1, worth("!!n=5?1;w:2", 5, 0, 0, 0));
        due("the first that holds", 3, worth("n=1?2;h:9;w:n=5?3;w:4", 5, 0, 0, 0));
        due("none that holds", 60, worth("n=1?2", 5, 0, 0, 0));
        inForce();
    }

    private static void inForce() {
        EveryChild x = new EveryChild();
        int[] usual = {60, 40, 1, 1, 0, 1, 0};
        for (int k = 0; k < 7; k++) {
            promise = 17;
            due("usual", usual[k], x.worth(3, 11, 0, "whstvcf".charAt(k), 1, 1, 1, 1));
            promise = 18;
            due("why", NONE, x.why(3, 11, 0, "whstvcf".charAt(k), 1, 1, 1, 1));
        }
        law(x, NONE, 2, "w:10;h:11");
        law(x, 1, 2, "w:20");
        law(x, 1, 1, "w:30;h:31");
        x.weeks(1);
        law(x, NONE, 5, "w:n=9?40");
        law(x, 0, 1, "w:50");
        int[][] asked = {
            // shire, year, q, n, worth, law
            {1, 0, 1, 0, 60, NONE}, {1, 1, 1, 0, 30, 2}, {1, 2, 1, 0, 20, 1}, {0, 2, 1, 0, 10, 0}, {0, 1, 1, 0, 50, 4},
            {0, 1, 0, 0, 60, NONE}, {1, 5, 1, 9, 40, 3}, {1, 5, 1, 8, 20, 1}, {1, 5, 0, 9, 20, 1}, {3, 11, 1, 9, 40, 3},
            {3, 4, 1, 9, 10, 0}};
        for (int[] a : asked) {
            promise = 17;
            due("worth", a[4], x.worth(a[0], a[1], a[2], 'w', a[3], 0, 0, 0));
            promise = 18;
            due("why", a[5], x.why(a[0], a[1], a[2], 'w', a[3], 0, 0, 0));
        }
        due("each label by itself", 0, x.why(1, 2, 1, 'h', 0, 0, 0, 0));
        int[][] none = {{4, 0, 0, 'w'}, {-1, 0, 0, 'w'}, {0, 12, 0, 'w'}, {0, -1, 0, 'w'}, {1, 2, 2, 'w'}, {0, 0, -1, 'w'},
            {0, 0, 0, 'q'}, {0, 0, 0, 0}, {0, 0, 0, 'w' + 256}};
        for (int[] a : none) {
            promise = 17;
            due("no such ones", UNTOLD, x.worth(a[0], a[1], a[2], a[3], 0, 0, 0, 0));
            promise = 18;
            due("no such ones", NONE, x.why(a[0], a[1], a[2], a[3], 0, 0, 0, 0));
        }
    }

    private static void quarrels() {
        promise = 19;
        EveryChild x = new EveryChild();
        law(x, NONE, 0, "h:20;c:5;w:n=0&l=0&x=0&r=0?7");
        due("the land alone", NONE, x.quarrel(0, 0, 0));
        law(x, 0, 1, "c:6;w:7");
        due("as known in the year ahead", NONE, x.quarrel(0, 0, 0));
        due("c", 'c', x.quarrel(0, 1, 0));
        due("another shire", NONE, x.quarrel(1, 1, 0));
        law(x, 0, 2, "h:21");
        due("h is ahead of c", 'h', x.quarrel(0, 2, 0));
        x.weeks(1);
        law(x, NONE, 3, "h:y+18;c:i+6;f:1");
        due("alike again", NONE, x.quarrel(0, 3, 1));
        due("as known in 0", 'h', x.quarrel(0, 3, 0));
        law(x, NONE, 3, "w:8");
        due("w is the first", 'w', x.quarrel(0, 3, 1));
        due("shire", NONE, x.quarrel(4, 3, 1));
        due("shire", NONE, x.quarrel(-1, 3, 1));
        due("year", NONE, x.quarrel(0, 12, 1));
        due("year", NONE, x.quarrel(0, -1, 1));
        due("q", NONE, x.quarrel(0, 3, 2));
        due("q", NONE, x.quarrel(0, 3, -1));
    }

    private static void places() {
        promise = 20;
        EveryChild x = new EveryChild();
        supply(x);
        x.weeks(2);
        x.school(0, 1, 3, 2, 1);
        x.weeks(1);
        due("built", 3, x.schooled(0, 0));
        due("rooms, shifts, heads", 3 * 1 * 40, x.places(0, 3, 3));
        due("not built yet", 0, x.places(0, 2, 3));
        due("the school is told, that it is built is known at once", 120, x.places(0, 3, 2));
        due("the school is not told", 0, x.places(0, 3, 1));
        law(x, 1, 0, "s:3;h:y=0?30;h:0-7");
        due("no more shifts than it has", 3 * 2 * 30, x.places(0, 3, 3));
        law(x, 1, 0, "s:0-5");
        due("one shift at least", 3 * 30, x.places(0, 3, 3));
        x.worth(1, 0, 3, 'w', 1, 2, 3, 4);
        law(x, 1, 0, "s:n=0&l=0&x=0&r=0&y=0&i=1?2;h:n=0&l=0&x=0&r=0&i=1&y=0?20");
        due("no letters but y and i", 3 * 2 * 20, x.places(0, 3, 3));
        law(x, 1, 0, "s:0;h:y=0?30;h:0-7");
        x.weeks(49);
        due("no heads below 0", 0, x.places(0, 52, 52));
        due("the year is the week's", 90, x.places(0, 51, 52));
        x.shut(0, true);
        x.weeks(2);
        x.shut(0, false);
        due("shut", 0, x.places(0, 52, 52));
        law(x, 1, 1, "h:10");
        due("shut in the weeks between", 0, x.places(0, 53, 54));
        due("open in the week in which it is opened", 30, x.places(0, 54, 54));
        due("that it is opened is not known yet", 0, x.places(0, 54, 53));
        due("that it is shut is not known yet", 90, x.places(0, 51, 51));
        due("school", NONE, x.places(1, 0, 0));
        due("school", NONE, x.places(-1, 0, 0));
        due("week", NONE, x.places(0, 55, 0));
        due("week", NONE, x.places(0, -1, 0));
        due("q", NONE, x.places(0, 0, 55));
        due("q", NONE, x.places(0, 0, -1));
    }

    private static void reach() {
        promise = 21;
        EveryChild x = new EveryChild();
        x.village(0, 0, 2);
        x.village(0, 1, 3);
        x.school(6, 2, 1, 1, 1 << 2);
        x.school(7, 2, 1, 1, 1 << 3);
        due("sixty minutes, not built", 1, x.reach(0, 0, 0, 0));
        due("seventy", 0, x.reach(0, 1, 0, 0));
        law(x, 0, 0, "w:l=2&n=9?70");
        due("seventy, but for nine children", 0, x.reach(0, 1, 0, 0));
        x.weeks(1);
        x.count(0, 0, 4, 5);
        due("counted in 1", 1, x.reach(0, 1, 1, 1));
        due("as known in 0", 0, x.reach(0, 1, 1, 0));
        due("its own shire's law", 0, x.reach(1, 1, 1, 1));
        law(x, 2, 0, "f:2");
        due("not its tongue", 0, x.reach(1, 0, 1, 1));
        due("its tongue", 1, x.reach(0, 0, 1, 1));
        due("as known in 0", 1, x.reach(1, 0, 1, 0));
        law(x, 2, 0, "f:n=0&l=0&x=0&r=0?0");
        x.worth(1, 0, 1, 'w', 1, 2, 3, 4);
        due("no letters but y and i", 1, x.reach(1, 0, 1, 1));
        law(x, 2, 0, "f:1");
        law(x, 0, 0, "w:89");
        x.rain(1, 1, true);
        due("ninety in the rain", 0, x.reach(0, 0, 1, 1));
        law(x, 0, 0, "w:90");
        due("ninety in the rain", 1, x.reach(0, 0, 1, 1));
        x.draw(1, 0, 1, 10, 1, 0);
        due("no way in the rain", 0, x.reach(0, 0, 1, 1));
        due("dry it is", 1, x.reach(0, 0, 0, 0));
        law(x, 0, 0, "w:0-1");
        x.school(0, 0, 1, 1, 1);
        due("below no walk at all", 0, x.reach(0, 2, 1, 1));
        due("no walk at all", 1, x.reach(1, 2, 1, 1));
        int[][] none = {{2, 0, 0, 0}, {-1, 0, 0, 0}, {0, 3, 0, 0}, {0, -1, 0, 0}, {0, 0, 2, 0}, {0, 0, -1, 0}, {0, 0, 0, 2}, {0, 0, 0, -1}};
        for (int[] a : none) due("no such ones", NONE, x.reach(a[0], a[1], a[2], a[3]));
    }

    /** Two schools of twenty places each, one beside the first village, three villages in a line. */
    private static EveryChild three() {
        EveryChild x = new EveryChild();
        supply(x);
        law(x, NONE, 0, "h:20;w:20");
        x.village(1, 0, 0);
        x.village(2, 0, 0);
        x.village(5, 0, 0);
        x.school(3, 0, 1, 1, 1);
        x.school(0, 0, 1, 1, 1);
        x.count(0, 0, 8, 4);
        x.count(1, 0, 13, 4);
        x.count(2, 0, 6, 6);
        x.weeks(1);
        return x;
    }

    private static void seating() {
        promise = 22;
        EveryChild x = three();
        due("the nearest first", 12, x.seated(0, 1, 1, 1));
        due("the nearest first", 0, x.seated(0, 0, 1, 1));
        due("the nearest first", 17, x.seated(1, 0, 1, 1));
        due("what is left", 3, x.seated(2, 0, 1, 1));
        due("not within reach", 0, x.seated(2, 1, 1, 1));
        due("in all", 17, x.seated(1, NONE, 1, 1));
        promise = 23;
        due("the rest", 9, x.unseated(2, 1, 1));
        due("none", 0, x.unseated(0, 1, 1));
        due("in all", 9, x.unseated(NONE, 1, 1));
        due("in a week ahead of the schools", 41, x.unseated(NONE, 0, 1));
        promise = 22;
        x.count(1, 0, 12, 13);
        due("over to the next", 5, x.seated(1, 1, 1, 1));
        due("in all", 25, x.seated(1, NONE, 1, 1));
        x.weeks(1);
        x.draw(2, 0, 2, 1, 10, 15);
        x.count(0, 0, 20, 2);
        due("as known in 1", 12, x.seated(0, 1, 1, 1));
        due("as known in 2", 20, x.seated(0, 1, 1, 2));
        due("over to the other", 2, x.seated(0, 0, 1, 2));
        EveryChild alike = new EveryChild();
        supply(alike);
        alike.village(1, 0, 0);
        alike.count(0, 0, 50, 0);
        alike.school(2, 0, 1, 1, 1);
        alike.school(0, 0, 1, 1, 1);
        alike.weeks(1);
        due("of alike ones the lower", 40, alike.seated(0, 0, 1, 1));
        due("of alike ones the lower", 10, alike.seated(0, 1, 1, 1));
        int[][] none = {{3, 0, 0, 0}, {-1, 0, 0, 0}, {0, 2, 0, 0}, {0, -2, 0, 0}, {0, 0, 3, 0}, {0, 0, -1, 0}, {0, 0, 0, 3}, {0, 0, 0, -1}};
        for (int[] a : none) {
            promise = 22;
            due("no such ones", NONE, x.seated(a[0], a[1], a[2], a[3]));
            promise = 23;
            if (a[0] != -1 && a[1] == 0) due("no such ones", NONE, x.unseated(a[0], a[2], a[3]));
        }
        due("village", NONE, x.unseated(-2, 0, 0));
    }

    private static void most() {
        promise = 24;
        EveryChild x = three();
        due("parted better", 40, x.most(1, 1));
        due("when none is built", 0, x.most(0, 1));
        due("week", NONE, x.most(2, 0));
        due("week", NONE, x.most(-1, 0));
        due("q", NONE, x.most(0, 2));
        due("q", NONE, x.most(0, -1));
        EveryChild chain = new EveryChild();
        supply(chain);
        law(chain, NONE, 0, "h:10;w:10");
        // schools and villages by turns: for the last village all the others move over by one school
        for (int k = 0; k < 5; k++) {
            chain.school(2 * k, 0, 1, 1, 1);
            chain.village(2 * k + 1, 0, 0);
            chain.count(k, 0, 10, 0);
        }
        chain.village(0, 0, 0);
        chain.count(5, 0, 7, 0);
        chain.weeks(4);
        due("no room", 7, chain.unseated(NONE, 4, 4));
        due("no room", 50, chain.most(4, 4));
        chain.school(10, 0, 1, 1, 1);
        chain.weeks(1);
        due("no room in the nearest", 7, chain.unseated(NONE, 5, 5));
        due("all move over", 57, chain.most(5, 5));
        chain.count(3, 0, 10, 5);
        due("no room for five", 60, chain.most(5, 5));
        EveryChild tongues = new EveryChild();
        supply(tongues);
        law(tongues, NONE, 0, "h:1;f:1");
        int[][] villages = {{0, 0, 10}, {0, 1, 3}, {0, 1, 3}, {1, 3, 8}, {1, 4, 8}};
        int[][] schools = {{0, 6, 3}, {0, 10, 9}, {0, 8, 1}, {1, 8, 24}};
        for (int v = 0; v < 5; v++) {
            tongues.village(villages[v][0], 0, villages[v][1]);
            tongues.count(v, 0, villages[v][2], 0);
        }
        for (int[] s : schools) tongues.school(s[0], 0, s[1], 1, s[2]);
        tongues.weeks(10);
        due("seated one by one", 18, tongues.seated(0, NONE, 10, 10) + tongues.seated(3, 3, 10, 10));
        due("those that moved in move on", 32, tongues.most(10, 10));
    }

    private static void sites() {
        promise = 25;
        EveryChild x = new EveryChild();
        due("cell", NONE, x.site(120));
        due("cell", NONE, x.site(-1));
        int[] cells = {0, 3, 6, 9, 11, 5, 6, 60, 119};
        for (int k = 0; k < 9; k++) due("site", k, x.site(cells[k]));
        due("a tenth", NONE, x.site(0));
        law(x, 0, 0, "w:n=5?100;w:30");
        x.village(0, 0, 0);
        x.village(6, 0, 0);
        x.village(11, 0, 0);
        promise = 26;
        due("none to cover", 0, x.cover(0, 0));
        due("one, the lower", 1, x.cover(1, 0));
        due("two, the lowest first", 1 << 0 | 1 << 3, x.cover(7, 0));
        due("two, the lowest first", 1 << 0 | 1 << 3, x.cover(5, 0));
        due("the lowest of four", 1 << 1, x.cover(2, 0));
        due("in the dry weeks", 1 << 1, x.cover(3, 0));
        x.rain(9, 600, true);
        due("in the wet weeks", 1 << 0 | 1 << 2, x.cover(3, 9));
        due("in the last week", 1 << 0 | 1 << 2, x.cover(3, 600));
        due("villages", NONE, x.cover(8, 0));
        due("villages", NONE, x.cover(-1, 0));
        due("week", NONE, x.cover(1, 601));
        due("week", NONE, x.cover(1, -1));
        x.weeks(2);
        x.count(2, 0, 5, 0);
        due("as known now", 1 << 1, x.cover(7, 0));
        promise = 27;
        due("there is a cover", NONE, x.beyond(7, 0));
        x.village(84, 0, 0);
        x.village(107, 0, 0);
        promise = 26;
        due("three", 1 << 1 | 1 << 7 | 1 << 8, x.cover(31, 0));
        promise = 27;
        due("there is a cover", NONE, x.beyond(31, 0));
        x.village(50, 1, 0);
        law(x, 1, 0, "w:0");
        promise = 26;
        due("beyond", NONE, x.cover(33, 0));
        promise = 27;
        due("beyond", 5, x.beyond(33, 0));
        due("villages", NONE, x.beyond(64, 0));
        due("villages", NONE, x.beyond(-1, 0));
        due("week", NONE, x.beyond(33, 601));
        due("week", NONE, x.beyond(33, -1));
        promise = 28;
        due("judged well", -1, x.judge(2, 7, 0));
        due("the lowest that has none", 0, x.judge(1 << 2, 3, 0));
        due("the lowest that has none", 1, x.judge(1 << 0, 2, 0));
        due("none asked", -1, x.judge(0, 0, 600));
        due("no sites", 0, x.judge(0, 1, 0));
        due("sites", -2, x.judge(512, 1, 0));
        due("sites", -2, x.judge(-1, 1, 0));
        due("villages", -2, x.judge(1, 64, 0));
        due("villages", -2, x.judge(1, -1, 0));
        due("week", -2, x.judge(1, 1, 601));
        due("week", -2, x.judge(1, 1, -1));
    }

    private static void parts() {
        promise = 29;
        EveryChild x = new EveryChild();
        int[][] none = {{5, 1, 0, 0}, {-1, 1, 0, 0}, {0, 0, 0, 0}, {0, 51, 0, 0}, {0, 1, -1, 0}, {0, 1, 0, 601}, {0, 1, 601, 601}, {0, 1, 5, 4}};
        for (int[] a : none) due("refused", NONE, x.maker(a[0], a[1], a[2], a[3]));
        due("maker", 0, x.maker(0, 7, 2, 3));
        due("maker", 1, x.maker(0, 1, 0, 600));
        for (int k = 2; k < 8; k++) due("maker", k, x.maker(4, 50, 600, 600));
        due("a ninth", NONE, x.maker(0, 1, 0, 0));
        promise = 30;
        due("carries", NONE, x.lorry(0));
        due("carries", NONE, x.lorry(31));
        promise = 31;
        int[] yard = {0, 1, 9, 17, 18};
        for (int week = 0; week <= 4; week++) {
            due("in the yard in " + week, yard[week], x.parts(NONE, 0));
            x.weeks(1);
        }
        promise = 30;
        for (int k = 0; k < 10; k++) due("lorry", k, x.lorry(30));
        due("an eleventh", NONE, x.lorry(1));
        promise = 31;
        x.school(0, 0, 3, 1, 1);
        int[] needs = {3, 6, 12, 3, 9};
        for (int kind = 0; kind < 5; kind++) due("needs", needs[kind], x.parts(0, kind));
        due("school", NONE, x.parts(1, 0));
        due("school", NONE, x.parts(-2, 0));
        due("kind", NONE, x.parts(0, 5));
        due("kind", NONE, x.parts(NONE, -1));
        lorries();
    }

    private static void lorries() {
        EveryChild x = new EveryChild();
        x.maker(1, 5, 1, 1);
        x.maker(2, 10, 1, 1);
        x.maker(0, 1, 3, 3);
        x.lorry(8);
        x.lorry(30);
        x.school(0, 0, 2, 1, 1);
        x.school(1, 0, 1, 1, 1);
        x.school(2, 0, 1, 1, 1);
        x.far(0, true);
        x.rain(1, 2, true);
        x.weeks(1);
        // to 1, not to 0, which is far: two of 1, four of 2; then to 2 as much
        due("not to the far one", 4, x.parts(0, 1));
        due("kinds rising", 0, x.parts(1, 1));
        due("kinds rising", 0, x.parts(1, 2));
        due("the next lorry to the next school", 0, x.parts(2, 1));
        due("the next lorry to the next school", 0, x.parts(2, 2));
        due("what is left", 1, x.parts(NONE, 1));
        due("what is left", 2, x.parts(NONE, 2));
        x.draw(1, 0, 2, 1, 10, 0);
        x.weeks(1);
        due("wet, to none", 3, x.many(17));
        x.weeks(1);
        due("dry, to the far one", 1, x.parts(0, 0));
        due("one for it", 0, x.parts(NONE, 0));
        due("three of it", 3, x.parts(0, 1));
        due("all of it", 6, x.parts(0, 2));
        EveryChild single = new EveryChild();
        single.maker(4, 1, 1, 1);
        single.lorry(30);
        single.school(0, 0, 1, 1, 1);
        single.weeks(1);
        due("a single part", 2, single.parts(0, 4));
        EveryChild y = new EveryChild();
        y.maker(0, 50, 1, 600);
        y.maker(1, 50, 1, 600);
        y.lorry(3);
        y.school(0, 0, 4, 1, 1);
        y.school(1, 0, 4, 1, 1);
        y.weeks(1);
        due("as many as it carries", 1, y.parts(0, 0));
        due("as many as it carries", 8, y.parts(0, 1));
        y.weeks(1);
        due("the rest of it and of the next", 0, y.parts(0, 0));
        due("the rest of it and of the next", 6, y.parts(0, 1));
        y.rain(3, 3, true);
        y.draw(0, 0, 1, 1, 10, 0);
        y.weeks(1);
        due("its cell is shut wet", 6, y.parts(0, 1));
        due("to the next", 1, y.parts(1, 0));
    }

    private static void giving() {
        promise = 32;
        EveryChild x = new EveryChild();
        supply(x);
        law(x, NONE, 0, "v:l=1&y=0&x=0&r=0?n;v:50");
        x.village(0, 0, 1);
        x.village(0, 1, 0);
        x.count(0, 0, 30, 70);
        x.school(0, 0, 1, 1, 1);
        x.school(0, 0, 1, 1, 1);
        no("village", x.promise(2, 0));
        no("village", x.promise(-1, 0));
        no("school", x.promise(0, 2));
        no("school", x.promise(0, -1));
        yes("promise", x.promise(0, 0));
        no("it is", x.promise(0, 0));
        yes("to another", x.promise(0, 1));
        yes("another", x.promise(1, 1));
        promise = 33;
        no("village", x.give(2, 0, 1));
        no("village", x.give(-1, 0, 1));
        no("school", x.give(0, 2, 1));
        no("school", x.give(0, -1, 1));
        no("much", x.give(0, 0, 0));
        no("much", x.give(0, 0, 1001));
        promise = 34;
        x.worth(0, 0, 0, 't', 1, 2, 3, 4);
        due("lowest kind", 0, x.lack(0));
        yes("give", x.give(0, 0, 99));
        yes("give, not for this school", x.give(0, 1, 100));
        x.weeks(1);
        due("too little", 5, x.lack(0));
        due("too little of the other village", 5, x.lack(1));
        due("not built", NONE, x.schooled(0, 0));
        promise = 33;
        yes("give", x.give(0, 0, 1));
        promise = 34;
        due("enough as it is now", NONE, x.lack(0));
        due("not built yet", NONE, x.schooled(0, 0));
        x.count(0, 0, 101, 0);
        due("one child more", 5, x.lack(0));
        x.weeks(1);
        due("not built", NONE, x.schooled(0, 0));
        yes("give", x.give(0, 0, 1));
        yes("give", x.give(1, 1, 50));
        x.weeks(1);
        due("built", 3, x.schooled(0, 0));
        due("too little still", 5, x.lack(1));
        x.weeks(48);
        due("till the year is over", 5, x.lack(1));
        x.weeks(1);
        due("the year's law", 52, x.schooled(1, 0));
        due("built", NONE, x.lack(0));
        due("school", NONE, x.lack(2));
        due("school", NONE, x.lack(-1));
        x.count(0, 0, 999, 999);
        due("built is built", NONE, x.lack(0));
        promise = 33;
        for (int k = 5; k < 200; k++) yes("give", x.give(1, 0, 1000));
        no("a 201st", x.give(1, 0, 1));
        promise = 34;
        EveryChild y = new EveryChild();
        y.school(0, 0, 1, 1, 1);
        for (int kind = 0; kind < 5; kind++) {
            due("kind", kind, y.lack(0));
            int first = y.many(0) + 1;
            y.maker(kind, 4, first, first);
            if (kind == 0) y.lorry(30);
            y.weeks(1);
        }
        due("all there", NONE, y.lack(0));
        due("built", 5, y.schooled(0, 0));
    }

    private static void teachers() {
        promise = 35;
        EveryChild x = new EveryChild();
        int[][] none = {{12, 0, 1, 12}, {-1, 0, 1, 12}, {0, 10, 1, 12}, {0, -1, 1, 12}, {0, 0, 0, 12}, {0, 0, 256, 12}, {0, 0, 1, 13},
            {0, 0, 1, 0}, {3, 0, 1, 3}, {3, 0, 1, 2}, {3, 0, 1, -1}};
        for (int[] a : none) due("refused", NONE, x.teacher(a[0], a[1], a[2], a[3]));
        due("teacher", 0, x.teacher(11, 9, 255, 12));
        for (int k = 1; k < 40; k++) due("teacher", k, x.teacher(0, 0, 1, 1));
        due("a 41st", NONE, x.teacher(0, 0, 1, 1));
        promise = 36;
        EveryChild y = new EveryChild();
        supply(y);
        y.school(0, 0, 1, 2, 6);
        y.school(0, 1, 2, 3, 4);
        law(y, 1, 0, "s:2");
        y.teacher(0, 3, 2, 12);
        y.teacher(0, 3, 6, 2);
        y.teacher(1, 5, 4, 3);
        y.teacher(0, 0, 8, 12);
        due("in the year of training", NONE, y.sent(0, 0, 0));
        y.weeks(52);
        due("to the lowest", 0, y.sent(0, 52, 52));
        due("no class there is without one", 1, y.sent(1, 52, 52));
        due("trained this year", NONE, y.sent(2, 52, 52));
        due("no such tongue", NONE, y.sent(3, 52, 52));
        promise = 37;
        due("one class, one teacher", 0, y.teacherless(0, 52, 52));
        due("two rooms, two shifts", 3, y.teacherless(1, 52, 52));
        due("in all", 3, y.teacherless(NONE, 52, 52));
        due("in all, a year ahead", 5, y.teacherless(NONE, 51, 52));
        due("built in 1, not in 0", 0, y.teacherless(NONE, 0, 52));
        promise = 36;
        y.weeks(52);
        due("left", NONE, y.sent(1, 104, 104));
        due("in the second year", 1, y.sent(2, 104, 104));
        y.shut(0, true);
        due("shut", NONE, y.sent(0, 104, 104));
        due("shut is not known yet", 0, y.sent(0, 104, 103));
        promise = 37;
        due("no classes", 0, y.teacherless(0, 104, 104));
        y.shut(0, false);
        promise = 36;
        law(y, 0, 0, "t:x=2&r=3&l=1?0;t:l=1?0");
        due("no law for it", NONE, y.sent(0, 104, 104));
        due("as known in 103", 0, y.sent(0, 104, 103));
        law(y, 0, 0, "t:x=2&r=3&l=1?0-1");
        due("law for it", 0, y.sent(0, 104, 104));
        due("but not last year", NONE, y.sent(0, 53, 104));
        y.teacher(0, 3, 4, 12);
        due("told now", 1, y.sent(4, 104, 104));
        due("told behind q", NONE, y.sent(4, 104, 103));
        y.school(0, 2, 1, 1, 8);
        y.weeks(1);
        due("the new school", 2, y.sent(3, 105, 105));
        due("told up to q", 2, y.sent(3, 105, 104));
        due("told behind q", NONE, y.sent(3, 105, 103));
        promise = 37;
        due("told behind q", 0, y.teacherless(2, 105, 103));
        int[][] no = {{5, 0, 0}, {-2, 0, 0}, {0, 106, 0}, {0, -1, 0}, {0, 0, 106}, {0, 0, -1}};
        for (int[] a : no) {
            promise = 36;
            due("no such ones", NONE, y.sent(a[0], a[1], a[2]));
            promise = 37;
            due("no such ones", NONE, y.teacherless(a[0], a[1], a[2]));
        }
        due("school", NONE, y.teacherless(3, 0, 0));
        promise = 36;
        due("teacher", NONE, y.sent(NONE, 0, 0));
    }

    private static void recounts() {
        promise = 38;
        EveryChild x = new EveryChild();
        x.village(0, 0, 0);
        x.village(0, 0, 0);
        x.village(0, 1, 0);
        no("village", x.recount(3, 0, 1));
        no("village", x.recount(-1, 0, 1));
        no("year", x.recount(0, 12, 1));
        no("year", x.recount(0, -1, 1));
        no("children", x.recount(0, 0, 1999));
        no("children", x.recount(0, 0, -1));
        promise = 39;
        x.count(0, 0, 20, 13);
        yes("recount, of none counted", x.recount(1, 0, 9));
        due("no span", 33, x.span(0, 0, 0, 0));
        due("no span", 33, x.span(0, 0, 0, 1));
        yes("recount", x.recount(0, 0, 30));
        due("909 thousandths", 29, x.span(0, 0, 0, 0));
        due("909 thousandths", 29, x.span(0, 0, 0, 1));
        x.weeks(1);
        x.count(1, 0, 7, 0);
        due("from", 36, x.span(0, 0, 1, 0));
        due("to", 51, x.span(0, 0, 1, 1));
        due("as known in 0", 29, x.span(0, 0, 0, 1));
        yes("recount, the last", x.recount(1, 0, 0));
        due("from", 0, x.span(0, 0, 1, 0));
        due("to", 36, x.span(0, 0, 1, 1));
        due("of another year", 40, x.span(0, 1, 1, 0));
        due("of another shire", 0, x.span(1, 0, 1, 1));
        x.count(2, 0, 1, 0);
        x.recount(2, 0, 1998);
        x.village(0, 1, 0);
        x.count(3, 0, 999, 999);
        due("great ones", 1999L * 1998, x.span(1, 0, 1, 1));
        int[][] none = {{4, 0, 0, 0}, {-1, 0, 0, 0}, {0, 12, 0, 0}, {0, -1, 0, 0}, {0, 0, 2, 0}, {0, 0, -1, 0}, {0, 0, 0, 2}, {0, 0, 0, -1}};
        for (int[] a : none) due("no such ones", NONE, x.span(a[0], a[1], a[2], a[3]));
        promise = 38;
        for (int k = 4; k < 60; k++) yes("recount", x.recount(0, 11, 1998));
        no("a 61st", x.recount(0, 0, 1));
        due("recounts", 60, x.many(10));
    }

    private static void roofs() {
        promise = 41;
        EveryChild x = new EveryChild();
        x.school(0, 0, 1, 1, 1);
        x.school(0, 0, 1, 1, 1);
        x.school(0, 1, 1, 1, 1);
        no("no maker yet", x.roof(0, 0, 0));
        x.maker(0, 1, 600, 600);
        x.maker(0, 1, 600, 600);
        x.maker(0, 1, 600, 600);
        no("school", x.roof(3, 0, 0));
        no("school", x.roof(-1, 0, 0));
        no("pattern", x.roof(0, 5, 0));
        no("pattern", x.roof(0, -1, 0));
        no("maker", x.roof(0, 0, 3));
        no("maker", x.roof(0, 0, -1));
        due("none on", 0, x.schooled(0, 7));
        yes("roof", x.roof(0, 0, 0));
        yes("roof", x.roof(1, 4, 1));
        yes("roof", x.roof(2, 0, 1));
        due("on", 1, x.schooled(1, 7));
        promise = 40;
        no("pattern", x.strength(5, 10));
        no("pattern", x.strength(-1, 10));
        no("strength", x.strength(0, 0));
        no("strength", x.strength(0, 201));
        yes("strength", x.strength(4, 200));
        yes("strength", x.strength(4, 120));
        promise = 42;
        due("shire", NONE, x.wind(4, 1));
        due("shire", NONE, x.wind(-1, 1));
        due("strong", NONE, x.wind(0, 0));
        due("strong", NONE, x.wind(0, 301));
        due("no winds yet", 0, x.many(12));
        due("as strong as it", 0, x.wind(0, 100));
        promise = 43;
        due("none taken", NONE, x.blame());
        promise = 42;
        x.weeks(25);
        due("not 26 weeks", 0, x.wind(0, 100));
        x.weeks(1);
        due("26 weeks", 1, x.wind(0, 100));
        due("taken", 0, x.schooled(0, 7));
        due("gone already", 0, x.wind(0, 100));
        promise = 43;
        due("all of his", 0, x.blame());
        promise = 41;
        yes("a new one", x.roof(0, 0, 0));
        promise = 42;
        due("a new one", 0, x.wind(0, 100));
        due("another shire", 1, x.wind(1, 300));
        promise = 43;
        due("halves: the lower", 0, x.blame());
        yes("instead of the old", x.roof(0, 0, 0));
        due("a third of his", 1, x.blame());
        x.roof(2, 0, 2);
        x.wind(1, 300);
        due("the only one of his", 2, x.blame());
        promise = 41;
        for (int k = 6; k < 60; k++) yes("roof", x.roof(1, 1, 2));
        no("a 61st", x.roof(1, 1, 2));
        due("laid", 60, x.many(11));
        promise = 42;
        for (int k = x.many(12); k < 60; k++) x.wind(3, 1);
        due("a 61st", NONE, x.wind(0, 300));
        due("on yet", 1, x.schooled(1, 7));
        due("winds", 60, x.many(12));
    }

    private static void stay() {
        promise = 44;
        EveryChild x = new EveryChild();
        int[][] girls = {{30, 35}, {10, 20}, {50, 48}, {7, 4}, {1, 2}};
        int[][] boys = {{70, 65}, {20, 21}, {51, 50}, {8, 9}, {0, 0}};
        for (int v = 0; v < 4; v++) {
            x.village(0, 1, 0);
            x.count(v, 2, girls[v][0], boys[v][0]);
            x.count(v, 3, girls[v][1], boys[v][1]);
        }
        no("village", x.treat(4, 0));
        no("village", x.treat(-1, 0));
        no("year", x.treat(0, 12));
        no("year", x.treat(0, -1));
        yes("treat", x.treat(0, 3));
        no("it is", x.treat(0, 1));
        promise = 45;
        due("one alone", UNTOLD, x.stay(1, 3, 0));
        x.weeks(1);
        yes("treat", x.treat(1, 0));
        // 350-300 = 50, 487-333 = 154: 102; 489-495 = -6, 307-466 = -159: -82
        due("of both", 102 + 82, x.stay(1, 3, 1));
        due("as known in 0", UNTOLD, x.stay(1, 3, 0));
        due("from 3 on", UNTOLD, x.stay(1, 2, 1));
        due("alike in later years", 0, x.stay(1, 4, 1));
        x.village(0, 1, 0);
        x.count(4, 3, 5, 5);
        due("no children in the year ahead", 184, x.stay(1, 3, 1));
        x.village(0, 1, 0);
        x.count(5, 2, 5, 5);
        x.count(5, 3, 0, 0);
        due("no children in the year", 184, x.stay(1, 3, 1));
        x.treat(2, 4);
        due("treated later", 184, x.stay(1, 3, 1));
        due("treated by then, and nothing changes any more", 0, x.stay(1, 4, 1));
        due("another shire", UNTOLD, x.stay(0, 3, 1));
        for (int v = 6; v < 10; v++) {
            x.village(0, 2, 0);
            x.count(v, 0, v, 10);
            x.count(v, 1, 10, v < 8 ? 10 : 30);
            if (v < 8) x.treat(v, 1);
        }
        // 125 and 89, 107; -194 and -223, -208
        due("in year 1", 107 + 208, x.stay(2, 1, 1));
        due("shire", UNTOLD, x.stay(4, 3, 1));
        due("shire", UNTOLD, x.stay(-1, 3, 1));
        due("year", UNTOLD, x.stay(1, 0, 1));
        due("year", UNTOLD, x.stay(1, 12, 1));
        due("q", UNTOLD, x.stay(1, 3, 2));
        due("q", UNTOLD, x.stay(1, 3, -1));
    }

    private static void lenders() {
        promise = 46;
        EveryChild x = new EveryChild();
        due("coin", NONE, x.lender(-1));
        due("coin", NONE, x.lender(1000001));
        due("lender", 0, x.lender(0));
        due("lender", 1, x.lender(1000000));
        due("lender", 2, x.lender(50));
        due("lender", 3, x.lender(60));
        due("a fifth", NONE, x.lender(1));
        promise = 47;
        no("sort", x.bill(8, 1));
        no("sort", x.bill(-1, 1));
        no("coin", x.bill(0, 0));
        no("coin", x.bill(0, 100001));
        yes("bill", x.bill(0, 100));
        yes("bill", x.bill(7, 30));
        yes("bill", x.bill(3, 100000));
        promise = 48;
        due("all", 100130, x.paid(0, 0));
        due("nobody", 0, x.paid(0, 1));
        law(x, NONE, 0, "c:n=2&x<5|n=3&x>5?1;c:x=3&n=2?1;c:0");
        due("50 and 30", 80, x.paid(0, 0));
        due("nobody", 0, x.paid(0, 1));
        law(x, 0, 1, "c:n=3&x=0|n=2&(x=0|x=7)?0-3;c:0");
        due("60 and 40, or 30 and 60", 60 + 50, x.paid(1, 0));
        due("nobody", 100000, x.paid(1, 1));
        due("the year ahead", 80, x.paid(0, 0));
        law(x, 1, 2, "c:1");
        due("shire 0 alone", 110, x.paid(2, 0));
        due("year", NONE, x.paid(12, 0));
        due("year", NONE, x.paid(-1, 0));
        due("what", NONE, x.paid(0, 2));
        due("what", NONE, x.paid(0, -1));
        promise = 47;
        for (int k = 3; k < 40; k++) yes("bill", x.bill(6, 100000));
        no("a 41st", x.bill(6, 1));
        due("bills", 40, x.many(14));
    }

    private static void plans() {
        promise = 49;
        EveryChild x = new EveryChild();
        due("above 9", NONE, x.row(0x0a000000, 0));
        due("above 9", NONE, x.row(0, 0x0000000a));
        due("above 9", NONE, x.row(0x80000000, 0));
        due("above 9", NONE, x.row(0, -1));
        x.site(0);
        x.site(2);
        x.site(4);
        x.village(0, 0, 0);
        x.village(2, 0, 0);
        x.village(4, 0, 0);
        law(x, 0, 0, "w:10");
        promise = 50;
        due("no rows", NONE, x.plan(7, 7, 0));
        promise = 49;
        due("row", 0, x.row(0x01000100, 0x00010000));
        promise = 50;
        due("one", 0, x.plan(7, 1, 0));
        due("two", 2, x.plan(7, 3, 0));
        due("three", 5, x.plan(7, 7, 0));
        due("not of these sites", NONE, x.plan(3, 7, 0));
        due("none to serve", 0, x.plan(0, 0, 0));
        promise = 49;
        due("row", 1, x.row(0x00000000, 0x09000000));
        promise = 50;
        due("the worst row", 4, x.plan(7, 1, 0));
        due("the worst row", 5, x.plan(7, 7, 600));
        law(x, 0, 1, "w:20");
        due("the week's year", 4, x.plan(2, 7, 52));
        promise = 49;
        due("row", 2, x.row(0, 1));
        promise = 50;
        due("the last year", 7, x.plan(7, 1, 0));
        due("too few in one", NONE, x.plan(7, 3, 0));
        due("none to serve", 0, x.plan(7, 0, 0));
        due("sites", NONE, x.plan(8, 0, 0));
        due("sites", NONE, x.plan(-1, 0, 0));
        due("villages", NONE, x.plan(0, 8, 0));
        due("villages", NONE, x.plan(0, -1, 0));
        due("week", NONE, x.plan(0, 0, 601));
        due("week", NONE, x.plan(0, 0, -1));
        promise = 49;
        for (int k = 3; k < 6; k++) due("row", k, x.row(0x09090909, 0x09090909));
        due("a seventh", NONE, x.row(0, 0));
    }

    private static void many() {
        promise = 51;
        EveryChild x = new EveryChild();
        x.village(0, 0, 0);
        for (int k = 0; k < 3; k++) x.school(0, 0, 1, 1, 1);
        law(x, 0, 0, "w:1");
        for (int k = 0; k < 4; k++) x.count(0, 0, 1, 1);
        for (int k = 0; k < 5; k++) x.site(0);
        for (int kind = 0; kind < 5; kind++) x.maker(kind, 6, 1, 2);
        for (int k = 0; k < 7; k++) x.lorry(11);
        for (int k = 0; k < 8; k++) x.teacher(0, 0, 1, 1);
        for (int k = 0; k < 9; k++) x.recount(0, 0, 1);
        for (int k = 0; k < 10; k++) x.roof(0, 0, 0);
        for (int k = 0; k < 11; k++) x.wind(3, 1);
        for (int k = 0; k < 2; k++) x.lender(1);
        for (int k = 0; k < 12; k++) x.bill(0, 1);
        for (int k = 0; k < 6; k++) x.row(0, 0);
        x.feed('a', 'b', 0, 0, 0);
        x.weeks(2);
        // of 60 parts that were made 3 and 6 and 9 .. were carried: 1 and 2 and 2 .. are built
        int[] due = {2, 1, 3, 3, 1, 4, 5, 5, 7, 8, 9, 10, 11, 2, 12, 6, 2, 60 - 33};
        for (int what = 0; what < 18; what++) due("many(" + what + ")", due[what], x.many(what));
        due("what", NONE, x.many(18));
        due("what", NONE, x.many(-1));
    }
}
