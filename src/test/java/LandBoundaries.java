/** Promises 1 to 5: a new object, weeks, the land, rain. */
final class LandBoundaries extends Sentences {
    static void all() {
        nothingTold();
        weeks();
        cells();
        walks();
        rain();
    }

    private static void nothingTold() {
        holds(1, "The constants: None; refused.", () -> due(-1, EveryChild.NONE));
        holds(1, "WEEK 0, nothing told.", () -> {
            EveryChild x = new EveryChild();
            for (int what = 0; what <= 17; what++) due(0, x.many(what));
            due(0, x.fault());
            due(NONE, x.law(0, 0));
            no(x.end(1));
            due(NONE, x.quarrel(0, 0, 0));
            for (char label : LABELS.toCharArray()) due(NONE, x.why(0, 0, 0, label, 0, 0, 0, 0));
            due(0, x.unseated(NONE, 0, 0));
            due(0, x.most(0, 0));
            due(0, x.cover(0, 0));
            due(NONE, x.beyond(0, 0));
            due(-1, x.judge(0, 0, 0));
            for (int kind = 0; kind < 5; kind++) due(0, x.parts(NONE, kind));
            due(0, x.teacherless(NONE, 0, 0));
            due(0, x.span(0, 0, 0, 0));
            due(0, x.span(0, 0, 0, 1));
            due(NONE, x.blame());
            due(UNTOLD, x.stay(0, 1, 0));
            due(0, x.paid(0, 0));
            due(0, x.paid(0, 1));
            due(NONE, x.plan(0, 0, 0));
            due(0, x.weeks(0));
        });
        holds(1, "nothing told.", () -> {
            EveryChild x = new EveryChild();
            no(x.count(0, 0, 0, 0));
            due(NONE, x.child(0, 0, 0, 0));
            no(x.far(0, true));
            no(x.shut(0, true));
            due(NONE, x.schooled(0, 2));
            due(NONE, x.places(0, 0, 0));
            due(NONE, x.reach(0, 0, 0, 0));
            due(NONE, x.seated(0, NONE, 0, 0));
            due(NONE, x.unseated(0, 0, 0));
            due(NONE, x.cover(1, 0));
            due(NONE, x.beyond(1, 0));
            due(-2, x.judge(1, 0, 0));
            due(-2, x.judge(0, 1, 0));
            due(NONE, x.parts(0, 0));
            no(x.promise(0, 0));
            no(x.give(0, 0, 1));
            due(NONE, x.lack(0));
            due(NONE, x.sent(0, 0, 0));
            due(NONE, x.teacherless(0, 0, 0));
            no(x.recount(0, 0, 0));
            no(x.roof(0, 0, 0));
            no(x.treat(0, 0));
            due(NONE, x.plan(1, 0, 0));
        });
    }

    private static void weeks() {
        holds(2, "NOW is 0 at first, 600 at most", () -> {
            EveryChild x = new EveryChild();
            due(0, x.weeks(0));
            for (int k = 1; k <= 5; k++) due(104 * k, x.weeks(104));
            due(600, x.weeks(80));
            due(600, x.weeks(0));
            due(NONE, x.weeks(1));
            due(600, x.many(0));
        });
        holds(2, "WEEKS:", () -> due(1, new EveryChild().weeks(1)));
        holds(2, "n WEEKS (0 .. 104): NOW.", () -> edges(0, 104, n -> n >= 0 && new EveryChild().weeks(n) == n));
        holds(2, "NONE: n, NOW would be above 600.", () -> {
            EveryChild x = new EveryChild();
            due(NONE, x.weeks(-1));
            due(NONE, x.weeks(105));
            pass(x, 599);
            due(NONE, x.weeks(2));
            due(NONE, x.weeks(104));
            due(NONE, x.weeks(MAX));
            due(599, x.many(0));
            due(600, x.weeks(1));
        });
        holds(2, "a YEAR is 52 of them (WEEK by 52, cut).", () -> {
            EveryChild x = supplied();
            x.school(0, 0, 1, 1, 1);
            law(x, 0, 0, "h:y");
            pass(x, 600);
            for (int year = 1; year <= 11; year++) {
                due(year - 1, x.places(0, 52 * year - 1, 600));
                due(year, x.places(0, 52 * year, 600));
            }
            due(11, x.places(0, 600, 600));
        });
        holds(2, "All is told NOW; as known in q (0 .. NOW): what was told in WEEKS up to q.", () -> {
            EveryChild x = new EveryChild();
            x.village(0, 0, 0);
            pass(x, 5);
            x.count(0, 0, 7, 0);
            pass(x, 1);
            due(0, x.child(0, 0, 4, 0));
            due(7, x.child(0, 0, 5, 0));
            due(7, x.child(0, 0, 6, 0));
            x.count(0, 0, 8, 0);
            due(7, x.child(0, 0, 5, 0));
            due(8, x.child(0, 0, 6, 0));
            past(x, NONE, q -> x.child(0, 0, q, 0));
        });
    }

    /** What it takes to go onto a cell: a walk from one beside it cannot be shorter by another way. */
    private static int minutes(EveryChild x, int cell, int season) {
        return x.walk(cell % 12 > 0 ? cell - 1 : cell + 1, cell, season);
    }

    private static void cells() {
        holds(3, "LAND: 12 by 10 CELLS (number 12 y and x)", () -> {
            EveryChild x = new EveryChild();
            yes(x.draw(3, 2, 1, 1, 7, 8));
            due(7, minutes(x, 27, 0));
            due(8, minutes(x, 27, 1));
            yes(x.draw(11, 9, 1, 1, 5, 6));
            due(5, minutes(x, 119, 0));
            yes(x.draw(0, 0, 1, 1, 3, 4));
            due(3, minutes(x, 0, 0));
        });
        holds(3, "each takes so many MINUTES to go onto, dry and wet (1 .. 99; 10 and 15 at first; wet 0: shut).", () -> {
            EveryChild x = new EveryChild();
            for (int cell = 0; cell < 120; cell++) {
                due(10, minutes(x, cell, 0));
                due(15, minutes(x, cell, 1));
            }
            edges(1, 99, dry -> x.draw(5, 5, 1, 1, dry, 20));
            edges(0, 99, wet -> x.draw(5, 5, 1, 1, 20, wet));
            yes(x.draw(5, 5, 1, 1, 1, 99));
            due(1, minutes(x, 65, 0));
            due(99, minutes(x, 65, 1));
            yes(x.draw(5, 5, 1, 1, 99, 1));
            due(99, minutes(x, 65, 0));
            due(1, minutes(x, 65, 1));
            yes(x.draw(5, 5, 1, 1, 99, 0));
            due(NONE, minutes(x, 65, 1));
            due(99, minutes(x, 65, 0));
        });
        holds(3, "CELLS of a box take MINUTES.", () -> {
            EveryChild x = new EveryChild();
            yes(x.draw(2, 3, 3, 2, 7, 0));
            for (int cell = 0; cell < 120; cell++) {
                boolean inside = cell % 12 >= 2 && cell % 12 <= 4 && cell / 12 >= 3 && cell / 12 <= 4;
                due(inside ? 7 : 10, minutes(x, cell, 0));
                if (inside) due(NONE, minutes(x, cell, 1));
            }
            yes(x.draw(0, 0, 12, 10, 98, 97));
            for (int cell = 0; cell < 120; cell++) {
                due(98, minutes(x, cell, 0));
                due(97, minutes(x, cell, 1));
            }
        });
        holds(3, "False: not within, out of bounds.", () -> {
            EveryChild x = new EveryChild();
            edges(0, 11, left -> x.draw(left, 9, 1, 1, 10, 15));
            edges(0, 9, top -> x.draw(11, top, 1, 1, 10, 15));
            edges(1, 12, w -> x.draw(0, 0, w, 1, 10, 15));
            edges(1, 10, h -> x.draw(0, 0, 1, h, 10, 15));
            edges(1, 5, w -> x.draw(7, 0, w, 1, 10, 15));
            edges(1, 4, h -> x.draw(0, 6, 1, h, 10, 15));
            edges(1, 1, w -> x.draw(11, 0, w, 1, 10, 15));
            edges(1, 1, h -> x.draw(0, 9, 1, h, 10, 15));
            int[][] none = {{-1, 0, 2, 1, 5, 5}, {0, -1, 1, 2, 5, 5}, {11, 0, 2, 1, 5, 5}, {0, 9, 1, 2, 5, 5}, {0, 0, 13, 10, 5, 5},
                {0, 0, 12, 11, 5, 5}, {0, 0, 0, 1, 5, 5}, {0, 0, 1, 0, 5, 5}, {0, 0, 12, 10, 0, 5}, {0, 0, 12, 10, 100, 5},
                {0, 0, 12, 10, 5, -1}, {0, 0, 12, 10, 5, 100}, {1, 0, MAX, 1, 5, 5}, {0, 1, 1, MAX, 5, 5}};
            for (int[] a : none) no(x.draw(a[0], a[1], a[2], a[3], a[4], a[5]));
            for (int cell = 0; cell < 120; cell++) {
                due(10, minutes(x, cell, 0));
                due(15, minutes(x, cell, 1));
            }
        });
    }

    private static void walks() {
        holds(4, "WALK from a CELL to a CELL, dry (0) or wet (1): the least sum of MINUTES of the CELLS that are gone onto,", () -> {
            EveryChild x = new EveryChild();
            due(200, x.walk(0, 119, 0));
            due(300, x.walk(0, 119, 1));
            due(200, x.walk(119, 0, 0));
            // straight over one dear cell, or around it over three: 10 and 51 and so on against 40
            x.draw(1, 0, 1, 1, 30, 15);
            due(40, x.walk(0, 2, 0));
            x.draw(1, 0, 1, 1, 29, 15);
            due(39, x.walk(0, 2, 0));
            x.draw(1, 0, 1, 1, 31, 15);
            due(40, x.walk(0, 2, 0));
            due(30, x.walk(0, 2, 1));
            // the cell it begins on is not gone onto
            due(10, x.walk(1, 0, 0));
            due(31, x.walk(0, 1, 0));
        });
        holds(4, "each one of the four beside the one ahead", () -> {
            EveryChild x = new EveryChild();
            for (int to : new int[] {64, 66, 53, 77}) due(10, x.walk(65, to, 0));
            for (int to : new int[] {52, 54, 76, 78}) due(20, x.walk(65, to, 0));
            // a line's last cell is not beside the next line's first
            due(120, x.walk(11, 12, 0));
            due(120, x.walk(12, 11, 0));
            due(110, x.walk(0, 11, 0));
            due(90, x.walk(0, 108, 0));
            // nor is the land's end beside its beginning
            due(110, x.walk(108, 119, 0));
            due(90, x.walk(119, 11, 0));
        });
        holds(4, "(0, if it is the same; there may be none).", () -> {
            EveryChild x = new EveryChild();
            for (int cell : new int[] {0, 65, 119}) {
                due(0, x.walk(cell, cell, 0));
                due(0, x.walk(cell, cell, 1));
            }
            x.draw(5, 0, 1, 10, 10, 0);
            due(0, x.walk(5, 5, 1));
            due(NONE, x.walk(4, 6, 1));
            due(NONE, x.walk(4, 5, 1));
            due(15, x.walk(5, 4, 1));
            due(15, x.walk(5, 6, 1));
            due(20, x.walk(4, 6, 0));
            x.draw(5, 9, 1, 1, 10, 1);
            due(15 * 9 + 1 + 15 + 15 * 9, x.walk(4, 6, 1));
        });
        holds(4, "WALK.", () -> due(10, new EveryChild().walk(118, 119, 0)));
        holds(4, "NONE: no way, no such CELLS, season.", () -> {
            EveryChild x = new EveryChild();
            edges(0, 119, from -> x.walk(from, 60, 0) != NONE);
            edges(0, 119, to -> x.walk(60, to, 0) != NONE);
            edges(0, 1, season -> x.walk(0, 60, season) != NONE);
            edges(0, 1, season -> x.walk(7, 7, season) != NONE);
            due(NONE, x.walk(120, 120, 0));
            due(NONE, x.walk(-1, -1, 0));
            x.draw(1, 0, 1, 1, 1, 0);
            x.draw(0, 1, 1, 1, 1, 0);
            due(NONE, x.walk(0, 119, 1));
            due(NONE, x.walk(119, 1, 1));
            yes(x.walk(119, 0, 0) != NONE);
        });
    }

    /** A site that is near enough in dry weeks alone: judged badly where it is wet. */
    private static EveryChild tellingWet() {
        EveryChild x = new EveryChild();
        x.village(0, 0, 0);
        x.site(4);
        law(x, 0, 0, "w:40");
        return x;
    }

    private static boolean isWet(EveryChild x, int week) {
        return x.judge(1, 1, week) == 0;
    }

    private static void rain() {
        holds(5, "WEEKS from .. to (0 .. 600) are wet (or dry again).", () -> {
            EveryChild x = tellingWet();
            for (int week = 0; week <= 600; week++) no(isWet(x, week));
            yes(x.rain(3, 5, true));
            for (int week = 0; week <= 600; week++) due(week >= 3 && week <= 5 ? 1 : 0, isWet(x, week) ? 1 : 0);
            yes(x.rain(4, 4, false));
            for (int week = 0; week <= 10; week++) due(week == 3 || week == 5 ? 1 : 0, isWet(x, week) ? 1 : 0);
            yes(x.rain(0, 600, true));
            for (int week = 0; week <= 600; week++) yes(isWet(x, week));
            yes(x.rain(0, 0, false));
            yes(x.rain(600, 600, false));
            for (int week = 0; week <= 600; week++) due(week > 0 && week < 600 ? 1 : 0, isWet(x, week) ? 1 : 0);
        });
        holds(5, "False: out of bounds, to ahead of from.", () -> {
            EveryChild x = tellingWet();
            edges(0, 600, from -> x.rain(from, 600, false));
            edges(0, 600, to -> x.rain(0, to, false));
            no(x.rain(-1, 600, true));
            no(x.rain(0, 601, true));
            no(x.rain(601, 601, true));
            no(x.rain(5, 4, true));
            no(x.rain(600, 0, true));
            for (int week = 0; week <= 600; week++) no(isWet(x, week));
            yes(x.rain(5, 5, true));
        });
    }
}
