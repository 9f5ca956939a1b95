/** Promises 40 to 43: strengths, roofs, winds, blame. */
final class RoofBoundaries extends Sentences {
    static void all() {
        strength();
        roofs();
        wind();
        windRefused();
        blame();
    }

    /** So many schools in shire 0 and makers of whom to have roofs. */
    private static EveryChild schools(int many, int makers) {
        EveryChild x = new EveryChild();
        for (int s = 0; s < many; s++) x.school(0, 0, 1, 1, 1);
        for (int m = 0; m < makers; m++) x.maker(0, 1, 600, 600);
        return x;
    }

    private static void strength() {
        holds(40, "STRENGTH of a PATTERN (1 .. 200; 100 at first).", () -> {
            edges(1, 200, v -> new EveryChild().strength(0, v));
            for (int pattern = 0; pattern < 5; pattern++) {
                EveryChild x = schools(1, 1);
                x.roof(0, pattern, 0);
                due(0, x.wind(0, 100));
                due(1, x.wind(0, 101));
                for (int v : new int[] {1, 2, 199, 200}) {
                    x.roof(0, pattern, 0);
                    yes(x.strength(pattern, v));
                    due(0, x.wind(0, v));
                    due(1, x.wind(0, v + 1));
                }
            }
        });
        holds(40, "STRENGTH.", () -> {
            // of a pattern by itself, also of roofs that lie already
            EveryChild x = schools(5, 1);
            for (int s = 0; s < 5; s++) x.roof(s, s, 0);
            for (int s = 0; s < 5; s++) yes(x.strength(s, 10 + 10 * s));
            for (int s = 0; s < 5; s++) {
                due(0, x.wind(0, 10 + 10 * s));
                due(1, x.wind(0, 11 + 10 * s));
                due(0, x.schooled(s, 7));
            }
        });
        holds(40, "False: out of bounds.", () -> {
            edges(0, 4, pattern -> new EveryChild().strength(pattern, 100));
            EveryChild x = schools(1, 1);
            x.roof(0, 0, 0);
            int[][] none = {{-1, 5}, {5, 5}, {0, 0}, {0, -1}, {0, 201}, {MIN, 5}, {MAX, 5}, {0, MIN}, {0, MAX}};
            for (int[] a : none) no(x.strength(a[0], a[1]));
            due(0, x.wind(0, 100));
        });
    }

    private static void roofs() {
        holds(41, "ROOFS: of a PATTERN (0 .. 4) and a MAKER, laid on a SCHOOL in a WEEK (NOW; 60 at most; a new one instead of the old).", () -> {
            edges(0, 4, pattern -> schools(1, 1).roof(0, pattern, 0));
            EveryChild x = schools(1, 2);
            x.strength(1, 50);
            yes(x.roof(0, 0, 0));
            due(1, x.schooled(0, 7));
            yes(x.roof(0, 1, 1));
            due(1, x.schooled(0, 7));
            due(0, x.wind(0, 50));
            due(1, x.wind(0, 51));
            // there is but the new one
            due(0, x.schooled(0, 7));
            due(0, x.wind(0, 300));
            due(1, x.blame());
            // it is as old as it was laid late
            x.strength(1, 50);
            x.roof(0, 1, 0);
            pass(x, 52);
            x.roof(0, 1, 0);
            due(0, x.wind(0, 50));
            pass(x, 52);
            due(1, x.wind(0, 49));
            EveryChild y = schools(1, 1);
            for (int k = 0; k < 60; k++) yes(y.roof(0, 0, 0));
            no(y.roof(0, 0, 0));
        });
        holds(41, "A ROOF is laid.", () -> {
            EveryChild x = schools(2, 1);
            yes(x.roof(1, 0, 0));
            due(0, x.schooled(0, 7));
            due(1, x.schooled(1, 7));
            due(1, x.many(11));
        });
        holds(41, "False: no such SCHOOL, PATTERN, MAKER; there were 60.", () -> {
            EveryChild x = schools(2, 0);
            no(x.roof(0, 0, 0));
            x.maker(0, 1, 600, 600);
            x.maker(0, 1, 600, 600);
            for (int s : new int[] {-1, 2, 20, MIN, MAX}) no(x.roof(s, 0, 0));
            for (int pattern : new int[] {-1, 5, MIN, MAX}) no(x.roof(0, pattern, 0));
            for (int maker : new int[] {-1, 2, 8, MIN, MAX}) no(x.roof(0, 0, maker));
            due(0, x.many(11));
            due(0, x.schooled(0, 7));
            for (int k = 0; k < 59; k++) yes(x.roof(0, 4, 1));
            yes(x.roof(0, 4, 0));
            no(x.roof(1, 4, 0));
            no(x.roof(0, 0, 1));
            due(60, x.many(11));
            due(0, x.schooled(1, 7));
            due(1, x.wind(0, 300));
            due(0, x.blame());
        });
    }

    private static void wind() {
        holds(42, "WINDS (60 at most): of a SHIRE, NOW: so strong (1 .. 300): of its SCHOOLS with a ROOF it takes those with STRENGTH less WEEKS since"
            + " it was laid by 26, cut, below it.", () -> {
            EveryChild x = schools(3, 1);
            x.school(0, 1, 1, 1, 1);
            for (int s : new int[] {0, 1, 3}) x.roof(s, 0, 0);
            due(0, x.wind(0, 100));
            pass(x, 25);
            due(0, x.wind(0, 100));
            x.roof(1, 0, 0);
            pass(x, 1);
            due(1, x.wind(0, 100));
            due(0, x.schooled(0, 7));
            due(1, x.schooled(1, 7));
            due(0, x.schooled(2, 7));
            due(1, x.schooled(3, 7));
            // 51 weeks, then 52, of the one in shire 1
            pass(x, 25);
            due(0, x.wind(1, 99));
            pass(x, 1);
            due(1, x.wind(1, 99));
            due(0, x.wind(1, 300));
            pass(x, 600 - 52);
            // 575 weeks: 22
            due(0, x.wind(0, 78));
            due(1, x.wind(0, 79));
            due(0, x.wind(0, 300));
            EveryChild y = schools(2, 1);
            for (int k = 0; k < 59; k++) due(0, y.wind(0, 300));
            y.roof(0, 0, 0);
            y.roof(1, 0, 0);
            due(2, y.wind(0, 300));
            due(NONE, y.wind(0, 300));
        });
        holds(42, "STRENGTH less WEEKS since it was laid by 26, cut, below it.", () -> {
            // it may be below 1
            EveryChild x = schools(1, 1);
            x.strength(0, 1);
            x.roof(0, 0, 0);
            due(0, x.wind(0, 1));
            pass(x, 25);
            due(0, x.wind(0, 1));
            pass(x, 1);
            due(1, x.wind(0, 1));
            x.roof(0, 0, 0);
            pass(x, 520);
            due(1, x.wind(0, 1));
        });
        holds(42, "A WIND: how many ROOFS it took.", () -> {
            EveryChild x = schools(20, 1);
            for (int s = 0; s < 20; s++) x.roof(s, s % 2, 0);
            x.strength(1, 200);
            due(10, x.wind(0, 200));
            due(10, x.wind(0, 201));
            due(0, x.wind(0, 300));
            due(3, x.many(12));
        });
    }

    private static void windRefused() {
        holds(42, "NONE: no such SHIRE, out of bounds, there were 60.", () -> {
            edges(0, 3, shire -> new EveryChild().wind(shire, 1) == 0);
            edges(1, 300, strong -> new EveryChild().wind(0, strong) == 0);
            EveryChild x = schools(1, 1);
            x.roof(0, 0, 0);
            for (int shire : new int[] {-1, 4, MIN, MAX}) due(NONE, x.wind(shire, 300));
            for (int strong : new int[] {-1, 0, 301, MIN, MAX}) due(NONE, x.wind(0, strong));
            due(0, x.many(12));
            for (int k = 0; k < 60; k++) due(0, x.wind(k % 4, 1));
            due(NONE, x.wind(0, 300));
            due(60, x.many(12));
            due(1, x.schooled(0, 7));
        });
    }

    private static void blame() {
        holds(43, "BLAME: of MAKERS that laid ROOFS the one with the greatest part of its ROOFS taken (by cross products; of several the lowest;"
            + " none without any taken).", () -> {
            EveryChild x = schools(12, 4);
            due(NONE, x.blame());
            // maker 1 lays three, maker 2 two, maker 3 four; those on pattern 1 are taken
            int[][] laid = {{1, 1}, {1, 0}, {1, 0}, {2, 1}, {2, 0}, {3, 1}, {3, 1}, {3, 0}, {3, 0}};
            for (int s = 0; s < laid.length; s++) x.roof(s, laid[s][1], laid[s][0]);
            due(NONE, x.blame());
            x.strength(1, 50);
            due(4, x.wind(0, 51));
            // a third, a half, two of four: the lower of the halves
            due(2, x.blame());
            // one more of maker 2: a third
            x.roof(9, 0, 2);
            due(3, x.blame());
            // one more of maker 3: two of five, more than a third
            x.roof(10, 0, 3);
            due(3, x.blame());
            x.roof(11, 0, 3);
            // two of six, and thirds: the lowest
            due(1, x.blame());
            // a roof that was laid over is one that was laid
            x.roof(1, 0, 1);
            due(2, x.blame());
            x.roof(4, 0, 2);
            due(3, x.blame());
            x.roof(0, 1, 0);
            due(3, x.blame());
            due(1, x.wind(0, 51));
            due(0, x.blame());
        });
        holds(43, "BLAME.", () -> {
            EveryChild x = schools(1, 8);
            x.roof(0, 0, 7);
            x.wind(0, 101);
            due(7, x.blame());
        });
        holds(43, "NONE: none.", () -> {
            EveryChild x = schools(1, 1);
            due(NONE, x.blame());
            x.roof(0, 0, 0);
            due(NONE, x.blame());
            x.wind(0, 100);
            due(NONE, x.blame());
            x.wind(0, 101);
            due(0, x.blame());
        });
    }
}
