/** Promises 6 to 12: villages, counts, schools, which are far, which are shut. */
final class FolkBoundaries extends Sentences {
    static void all() {
        villages();
        counts();
        children();
        schools();
        far();
        shut();
        schooled();
    }

    private static EveryChild village() {
        EveryChild x = new EveryChild();
        x.village(0, 0, 0);
        return x;
    }

    private static EveryChild school() {
        EveryChild x = new EveryChild();
        x.school(0, 0, 1, 1, 1);
        return x;
    }

    private static void villages() {
        holds(6, "A VILLAGE: its number.", () -> {
            EveryChild x = new EveryChild();
            for (int v = 0; v < 24; v++) due(v, x.village(v, v % 4, v % 8));
            due(24, x.many(1));
        });
        holds(6, "SHIRES 0 .. 3.", () -> edges(0, 3, shire -> new EveryChild().village(0, shire, 0) == 0));
        holds(6, "VILLAGES (24 at most): a CELL, a SHIRE, a TONGUE (0 .. 7).", () -> {
            edges(0, 119, cell -> new EveryChild().village(cell, 0, 0) == 0);
            edges(0, 7, tongue -> new EveryChild().village(0, 0, tongue) == 0);
            EveryChild x = new EveryChild();
            for (int v = 0; v < 24; v++) due(v, x.village(0, 0, 0));
            due(NONE, x.village(0, 0, 0));
        });
        holds(6, "NONE: out of bounds, there are 24.", () -> {
            EveryChild x = new EveryChild();
            int[][] none = {{-1, 0, 0}, {120, 0, 0}, {0, -1, 0}, {0, 4, 0}, {0, 0, -1}, {0, 0, 8}};
            for (int[] a : none) due(NONE, x.village(a[0], a[1], a[2]));
            due(0, x.many(1));
            for (int v = 0; v < 23; v++) x.village(0, 0, 0);
            due(23, x.village(119, 3, 7));
            due(NONE, x.village(119, 3, 7));
            due(24, x.many(1));
            // the 24 stand
            yes(x.count(23, 0, 1, 1));
            no(x.count(24, 0, 1, 1));
        });
    }

    private static void counts() {
        holds(7, "COUNTS.", () -> {
            EveryChild x = village();
            yes(x.count(0, 0, 3, 4));
            due(3, x.child(0, 0, 0, 0));
            due(4, x.child(0, 0, 0, 1));
            due(1, x.many(5));
        });
        holds(7, "COUNTS (200 at most) of a VILLAGE for a YEAR (0 .. 11): girls, boys (0 .. 999 each):", () -> {
            edges(0, 0, v -> village().count(v, 0, 1, 1));
            edges(0, 11, year -> village().count(0, year, 1, 1));
            edges(0, 999, girls -> village().count(0, 0, girls, 0));
            edges(0, 999, boys -> village().count(0, 0, 0, boys));
            EveryChild x = village();
            yes(x.count(0, 11, 999, 999));
            due(999, x.child(0, 11, 0, 0));
            due(999, x.child(0, 11, 0, 1));
            for (int k = 1; k < 200; k++) yes(x.count(0, 0, 1, 1));
            no(x.count(0, 0, 1, 1));
        });
        holds(7, "False: no such ones, out of bounds, there were 200.", () -> {
            EveryChild x = village();
            int[][] none = {{1, 0, 1, 1}, {-1, 0, 1, 1}, {24, 0, 1, 1}, {0, 12, 1, 1}, {0, -1, 1, 1}, {0, 0, 1000, 1},
                {0, 0, -1, 1}, {0, 0, 1, 1000}, {0, 0, 1, -1}};
            for (int[] a : none) no(x.count(a[0], a[1], a[2], a[3]));
            due(0, x.many(5));
            due(0, x.child(0, 11, 0, 0) + x.child(0, 11, 0, 1));
            for (int k = 0; k < 200; k++) yes(x.count(0, k % 12, k, 0));
            no(x.count(0, 11, 500, 0));
            due(200, x.many(5));
            due(191, x.child(0, 11, 0, 0));
            due(199, x.child(0, 7, 0, 0));
        });
    }

    private static void children() {
        holds(8, "as known in q for a YEAR the one told last of those for the greatest YEAR up to it; none: 0 and 0.", () -> {
            EveryChild x = village();
            due(0, x.child(0, 11, 0, 0));
            due(0, x.child(0, 11, 0, 1));
            x.count(0, 3, 30, 31);
            due(0, x.child(0, 2, 0, 0));
            due(0, x.child(0, 2, 0, 1));
            due(30, x.child(0, 3, 0, 0));
            due(31, x.child(0, 11, 0, 1));
            x.count(0, 2, 20, 21);
            // the greatest year is ahead of what was told last
            due(30, x.child(0, 3, 0, 0));
            due(20, x.child(0, 2, 0, 0));
            due(0, x.child(0, 1, 0, 0));
            x.count(0, 3, 40, 41);
            due(40, x.child(0, 3, 0, 0));
            due(41, x.child(0, 3, 0, 1));
            pass(x, 1);
            x.count(0, 3, 0, 0);
            due(40, x.child(0, 3, 0, 0));
            due(0, x.child(0, 3, 1, 0));
            x.count(0, 0, 5, 6);
            due(0, x.child(0, 1, 0, 0));
            due(5, x.child(0, 1, 1, 0));
            due(20, x.child(0, 2, 1, 0));
        });
        holds(8, "Girls (0), boys (1) of a VILLAGE for a YEAR as known in q.", () -> {
            EveryChild x = village();
            x.village(0, 0, 0);
            x.count(1, 0, 5, 9);
            due(5, x.child(1, 0, 0, 0));
            due(9, x.child(1, 0, 0, 1));
            due(0, x.child(0, 0, 0, 1));
        });
        holds(8, "CHILDREN: both.", () -> {
            EveryChild x = village();
            x.count(0, 0, 5, 9);
            due(14, x.unseated(0, 0, 0));
        });
        holds(8, "NONE: no such ones.", () -> {
            EveryChild x = village();
            pass(x, 3);
            edges(0, 0, v -> x.child(v, 0, 0, 0) == 0);
            edges(0, 11, year -> x.child(0, year, 0, 0) == 0);
            edges(0, 3, q -> x.child(0, 0, q, 0) == 0);
            edges(0, 1, what -> x.child(0, 0, 0, what) == 0);
            for (int v : new int[] {-1, 1, 24}) due(NONE, x.child(v, 0, 0, 0));
            for (int year : new int[] {-1, 12}) due(NONE, x.child(0, year, 0, 0));
            for (int q : new int[] {-1, 4}) due(NONE, x.child(0, 0, q, 0));
            for (int what : new int[] {-1, 2}) due(NONE, x.child(0, 0, 0, what));
        });
    }

    private static void schools() {
        holds(9, "A SCHOOL: its number.", () -> {
            EveryChild x = new EveryChild();
            for (int s = 0; s < 20; s++) due(s, x.school(s, s % 4, s + 1, 1 + s % 3, 1 + s));
            for (int s = 0; s < 20; s++) due(s + 1, x.schooled(s, 2));
            due(20, x.many(2));
        });
        holds(9, "SCHOOLS (20 at most): a CELL, a SHIRE, rooms (1 .. 20), shifts (1 .. 3), TONGUES (bits, 1 .. 255).", () -> {
            edges(0, 119, cell -> new EveryChild().school(cell, 0, 1, 1, 1) == 0);
            edges(0, 3, shire -> new EveryChild().school(0, shire, 1, 1, 1) == 0);
            edges(1, 20, rooms -> new EveryChild().school(0, 0, rooms, 1, 1) == 0);
            edges(1, 3, shifts -> new EveryChild().school(0, 0, 1, shifts, 1) == 0);
            edges(1, 255, tongues -> new EveryChild().school(0, 0, 1, 1, tongues) == 0);
            EveryChild x = new EveryChild();
            for (int s = 0; s < 20; s++) due(s, x.school(0, 0, 1, 1, 1));
            due(NONE, x.school(0, 0, 1, 1, 1));
        });
        holds(9, "NONE: out of bounds, there are 20.", () -> {
            EveryChild x = new EveryChild();
            int[][] none = {{-1, 0, 1, 1, 1}, {120, 0, 1, 1, 1}, {0, -1, 1, 1, 1}, {0, 4, 1, 1, 1}, {0, 0, 0, 1, 1}, {0, 0, 21, 1, 1},
                {0, 0, 1, 0, 1}, {0, 0, 1, 4, 1}, {0, 0, 1, 1, 0}, {0, 0, 1, 1, 256}, {0, 0, 1, 1, -1}};
            for (int[] a : none) due(NONE, x.school(a[0], a[1], a[2], a[3], a[4]));
            due(0, x.many(2));
            for (int s = 0; s < 19; s++) x.school(0, 0, 1, 1, 1);
            due(19, x.school(119, 3, 20, 3, 255));
            due(NONE, x.school(119, 3, 20, 3, 255));
            due(20, x.many(2));
            due(20, x.schooled(19, 2));
        });
    }

    private static void far() {
        holds(10, "A SCHOOL is far (its road shut in wet WEEKS), or not.", () -> {
            EveryChild x = supplied();
            x.rain(2, 3, true);
            x.school(0, 0, 1, 1, 1);
            yes(x.far(0, true));
            pass(x, 1);
            due(1, x.schooled(0, 0));
            x.school(0, 0, 1, 1, 1);
            x.school(0, 0, 1, 1, 1);
            yes(x.far(1, true));
            pass(x, 1);
            due(NONE, x.schooled(1, 0));
            due(2, x.schooled(2, 0));
            yes(x.far(1, false));
            pass(x, 1);
            due(3, x.schooled(1, 0));
        });
        holds(10, "False: no such one, it is so.", () -> {
            EveryChild x = school();
            no(x.far(0, false));
            for (int s : new int[] {-1, 1, 20, MIN, MAX}) {
                no(x.far(s, true));
                no(x.far(s, false));
            }
            no(x.far(0, false));
            yes(x.far(0, true));
            no(x.far(0, true));
            yes(x.far(0, false));
            no(x.far(0, false));
        });
    }

    private static void shut() {
        holds(11, "It is SHUT (true), OPENED.", () -> {
            EveryChild x = school();
            due(0, x.schooled(0, 1));
            yes(x.shut(0, true));
            due(1, x.schooled(0, 1));
            yes(x.shut(0, false));
            due(0, x.schooled(0, 1));
        });
        holds(11, "False: no such one, it is so.", () -> {
            EveryChild x = school();
            no(x.shut(0, false));
            for (int s : new int[] {-1, 1, 20, MIN, MAX}) {
                no(x.shut(s, true));
                no(x.shut(s, false));
            }
            yes(x.shut(0, true));
            no(x.shut(0, true));
            pass(x, 3);
            no(x.shut(0, true));
            due(1, x.schooled(0, 1));
            yes(x.shut(0, false));
            no(x.shut(0, false));
            pass(x, 1);
            no(x.shut(0, false));
        });
        holds(11, "A SCHOOL is not BUILT as it is told (3 tells when it is), and may be SHUT from the WEEK on in which that is"
            + " told, till the WEEK in which it is OPENED again (that one not).", () -> {
            EveryChild x = supplied();
            x.school(0, 0, 1, 1, 1);
            due(NONE, x.schooled(0, 0));
            due(0, x.places(0, 0, 0));
            pass(x, 5);
            x.shut(0, true);
            pass(x, 3);
            x.shut(0, false);
            pass(x, 2);
            x.shut(0, true);
            pass(x, 590);
            for (int week = 1; week <= 12; week++)
                due(week >= 5 && week <= 7 || week >= 10 ? 0 : 40, x.places(0, week, 600));
            due(0, x.places(0, 600, 600));
            // shut and opened in one week: it is not shut in it
            yes(x.shut(0, false));
            due(40, x.places(0, 600, 600));
            yes(x.shut(0, true));
            due(0, x.places(0, 600, 600));
            due(0, x.places(0, 599, 599));
        });
        holds(11, "being SHUT is that of the lesser of q and the WEEK asked;", () -> {
            EveryChild x = supplied();
            x.school(0, 0, 1, 1, 1);
            pass(x, 5);
            x.shut(0, true);
            pass(x, 5);
            x.shut(0, false);
            pass(x, 5);
            int[][] asked = {{4, 15, 40}, {5, 15, 0}, {9, 15, 0}, {10, 15, 40}, {15, 4, 40}, {15, 5, 0}, {15, 9, 0}, {15, 10, 40},
                {5, 4, 40}, {4, 5, 40}, {9, 10, 0}, {10, 9, 0}, {15, 15, 40}, {7, 7, 0}};
            for (int[] a : asked) due(a[2], x.places(0, a[0], a[1]));
        });
    }

    private static void schooled() {
        holds(12, "Of a SCHOOL: 0 the WEEK in which it was BUILT (NONE), 1 whether it is SHUT (1), 2 rooms, 3 shifts, 4 TONGUES,"
            + " 5 its CELL, 6 its SHIRE, 7 whether its ROOF is on (1; 0 without).", () -> {
            EveryChild x = supplied();
            x.school(5, 1, 2, 3, 9);
            int[] told = {NONE, 0, 2, 3, 9, 5, 1, 0};
            for (int what = 0; what < 8; what++) due(told[what], x.schooled(0, what));
            x.shut(0, true);
            due(1, x.schooled(0, 1));
            pass(x, 2);
            x.roof(0, 0, 0);
            int[] later = {1, 1, 2, 3, 9, 5, 1, 1};
            for (int what = 0; what < 8; what++) due(later[what], x.schooled(0, what));
            x.wind(1, 300);
            due(0, x.schooled(0, 7));
            x.roof(0, 0, 0);
            due(1, x.schooled(0, 7));
            due(1, x.schooled(0, 0));
        });
        holds(12, "NONE for others.", () -> {
            EveryChild x = school();
            edges(1, 7, what -> what != 0 && x.schooled(0, what) != NONE);
            for (int what : new int[] {-1, 8, MIN, MAX}) due(NONE, x.schooled(0, what));
            for (int what = 0; what < 8; what++)
                for (int s : new int[] {-1, 1, 20, MIN, MAX}) due(NONE, x.schooled(s, what));
        });
    }
}
