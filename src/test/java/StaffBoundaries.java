/** Promises 35 to 37: teachers, where they are sent, which classes are without one. */
final class StaffBoundaries extends Sentences {
    static void all() {
        teachers();
        years();
        sent();
        lawful();
        sentRefused();
        teacherless();
    }

    private static void teachers() {
        holds(35, "TEACHERS (40 at most): trained in a YEAR (0 .. 11), a RANK (0 .. 9), TONGUES (bits 1 .. 255), leaving with a YEAR"
            + " (that one not any more; 12: never).", () -> {
            edges(0, 11, trained -> new EveryChild().teacher(trained, 0, 1, 12) == 0);
            edges(0, 9, rank -> new EveryChild().teacher(0, rank, 1, 12) == 0);
            edges(1, 255, tongues -> new EveryChild().teacher(0, 0, tongues, 12) == 0);
            edges(1, 12, leaves -> new EveryChild().teacher(0, 0, 1, leaves) == 0);
            EveryChild x = new EveryChild();
            for (int k = 0; k < 40; k++) due(k, x.teacher(0, 0, 1, 12));
            due(NONE, x.teacher(0, 0, 1, 12));
        });
        holds(35, "A TEACHER: its number.", () -> {
            EveryChild x = new EveryChild();
            for (int k = 0; k < 40; k++) due(k, x.teacher(k % 12, k % 10, 1 + k, 12));
            due(40, x.many(9));
        });
        holds(35, "NONE: out of bounds, leaving not behind being trained, there are 40.", () -> {
            EveryChild x = new EveryChild();
            int[][] none = {{-1, 0, 1, 12}, {12, 0, 1, 12}, {12, 0, 1, 13}, {0, -1, 1, 12}, {0, 10, 1, 12}, {0, 0, 0, 12}, {0, 0, 256, 12},
                {0, 0, -1, 12}, {0, 0, 1, 13}, {0, 0, 1, 0}, {0, 0, 1, -1}, {3, 0, 1, 3}, {3, 0, 1, 2}, {11, 0, 1, 11}, {-1, 0, 1, 0}};
            for (int[] a : none) due(NONE, x.teacher(a[0], a[1], a[2], a[3]));
            due(0, x.many(9));
            due(0, x.teacher(3, 0, 1, 4));
            due(1, x.teacher(11, 0, 1, 12));
            for (int k = 2; k < 39; k++) x.teacher(0, 0, 1, 1);
            due(39, x.teacher(11, 9, 255, 12));
            due(NONE, x.teacher(11, 9, 255, 12));
            due(40, x.many(9));
        });
    }

    /** A school of three rooms and two shifts, of the tongues 0 and 1, in shire 1, built in week 1. */
    private static EveryChild school() {
        EveryChild x = supplied();
        x.school(0, 1, 3, 2, 3);
        pass(x, 1);
        return x;
    }

    private static void years() {
        holds(36, "TEACHERS, rising, that were trained in an earlier YEAR and have not left:", () -> {
            EveryChild x = school();
            x.teacher(2, 0, 1, 4);
            x.teacher(0, 0, 1, 1);
            x.teacher(3, 0, 1, 12);
            x.teacher(11, 0, 1, 12);
            pass(x, 599);
            // trained in 2, leaving with 4: in 3 alone; trained in 0, leaving with 1: never
            for (int week : new int[] {1, 52, 104, 155, 156, 207, 208, 600}) {
                due(week / 52 == 3 ? 0 : NONE, x.sent(0, week, 600));
                due(NONE, x.sent(1, week, 600));
                due(week / 52 > 3 ? 0 : NONE, x.sent(2, week, 600));
                due(NONE, x.sent(3, week, 600));
            }
        });
        holds(36, "leaving with a YEAR (that one not any more; 12: never).", () -> {
            EveryChild x = school();
            x.teacher(0, 0, 1, 11);
            x.teacher(0, 0, 1, 12);
            pass(x, 599);
            due(NONE, x.sent(0, 51, 600));
            due(0, x.sent(0, 52, 600));
            due(0, x.sent(0, 571, 600));
            due(NONE, x.sent(0, 572, 600));
            due(0, x.sent(1, 572, 600));
            due(0, x.sent(1, 600, 600));
        });
        holds(36, "a TEACHER told behind q is none;", () -> {
            EveryChild x = school();
            pass(x, 51);
            x.teacher(0, 0, 1, 12);
            pass(x, 5);
            due(NONE, x.sent(0, 57, 51));
            due(0, x.sent(0, 57, 52));
            due(0, x.sent(0, 52, 57));
            due(3, x.teacherless(0, 57, 51));
            due(2, x.teacherless(0, 57, 52));
        });
    }

    private static void sent() {
        holds(36, "each to the lowest SCHOOL BUILT by then and not SHUT in which a CLASS is without one (CLASSES: rooms times the lesser of shifts"
            + " and WORTH of s, 1 at least)", () -> {
            EveryChild x = supplied();
            for (int k = 0; k < 3; k++) x.school(0, 1, 1, 2, 1);
            pass(x, 51);
            x.school(0, 1, 20, 3, 255);
            for (int k = 0; k < 7; k++) x.teacher(0, 0, 1, 12);
            pass(x, 1);
            // one class each without a law
            int[] posts = {0, 1, 2};
            for (int k = 0; k < 3; k++) due(posts[k], x.sent(k, 52, 52));
            int[][] shifts = {{9, 2}, {3, 2}, {2, 2}, {1, 1}, {0, 1}};
            for (int[] s : shifts) {
                law(x, 1, 0, "s:" + s[0]);
                for (int k = 0; k < 3 * s[1]; k++) due(k / s[1], x.sent(k, 52, 52));
                due(3, x.sent(3 * s[1], 52, 52));
            }
            law(x, 1, 0, "s:0-1");
            due(1, x.sent(1, 52, 52));
            law(x, 0, 0, "s:2");
            due(1, x.sent(1, 52, 52));
            x.shut(0, true);
            due(1, x.sent(0, 52, 52));
            due(2, x.sent(1, 52, 52));
            x.shut(1, true);
            x.shut(2, true);
            x.shut(3, true);
            due(NONE, x.sent(0, 52, 52));
            due(0, x.sent(0, 52, 51));
            x.shut(2, false);
            due(2, x.sent(0, 52, 52));
        });
        holds(36, "BUILT by then and not SHUT", () -> {
            EveryChild x = new EveryChild();
            x.school(0, 0, 1, 1, 1);
            x.teacher(0, 0, 1, 12);
            for (int kind = 0; kind < 5; kind++) x.maker(kind, 50, 60, 60);
            x.lorry(30);
            pass(x, 61);
            due(60, x.schooled(0, 0));
            due(NONE, x.sent(0, 59, 61));
            due(0, x.sent(0, 60, 61));
            due(0, x.sent(0, 61, 61));
            due(0, x.sent(0, 60, 0));
        });
    }

    private static void lawful() {
        holds(36, "and for some TONGUE that both have WORTH of t (the SCHOOL's SHIRE) is unlike 0.", () -> {
            EveryChild x = supplied();
            x.school(0, 1, 1, 1, 2 | 8);
            x.school(0, 2, 1, 1, 255);
            x.teacher(0, 5, 1 | 4, 12);
            x.teacher(0, 5, 8, 12);
            x.teacher(0, 5, 2 | 4, 12);
            pass(x, 104);
            due(1, x.sent(0, 104, 104));
            due(0, x.sent(1, 104, 104));
            due(NONE, x.sent(2, 104, 104));
            law(x, 1, 0, "t:l=3?0");
            due(NONE, x.sent(1, 104, 104));
            due(0, x.sent(2, 104, 104));
            law(x, 1, 0, "t:l=1?0-1;t:0");
            due(0, x.sent(2, 104, 104));
            law(x, 1, 0, "t:l=2?1;t:0");
            due(NONE, x.sent(2, 104, 104));
            law(x, 2, 0, "t:l=2?1;t:0");
            due(1, x.sent(0, 104, 104));
            law(x, 2, 0, "t:l=7?1;t:0");
            due(NONE, x.sent(0, 104, 104));
            law(x, 2, 0, "t:x=2&r=5?1;t:0");
            due(1, x.sent(0, 104, 104));
            due(NONE, x.sent(0, 103, 104));
            due(0, x.sent(1, 103, 103));
            for (int tongue = 0; tongue < 8; tongue++) {
                EveryChild y = supplied();
                y.school(0, 0, 2, 1, 1 << tongue);
                y.teacher(0, 0, 1 << tongue, 12);
                y.teacher(0, 0, 255 - (1 << tongue), 12);
                pass(y, 52);
                due(0, y.sent(0, 52, 52));
                due(NONE, y.sent(1, 52, 52));
                law(y, 0, 0, "t:l=" + tongue + "?0");
                due(NONE, y.sent(0, 52, 52));
            }
        });
    }

    private static void sentRefused() {
        holds(36, "SENT in a WEEK as known in q:", () -> {
            EveryChild x = school();
            x.teacher(0, 0, 1, 12);
            pass(x, 60);
            due(NONE, x.sent(0, 51, 61));
            due(0, x.sent(0, 52, 61));
            law(x, 1, 0, "t:0");
            due(NONE, x.sent(0, 52, 61));
            due(0, x.sent(0, 52, 60));
        });
        holds(36, "Where a TEACHER is SENT.", () -> {
            EveryChild x = school();
            x.teacher(0, 0, 2, 12);
            pass(x, 60);
            due(0, x.sent(0, 61, 61));
        });
        holds(36, "NONE: nowhere, no such ones.", () -> {
            EveryChild x = school();
            x.teacher(0, 0, 1, 12);
            x.teacher(0, 0, 4, 12);
            pass(x, 60);
            due(NONE, x.sent(1, 61, 61));
            edges(0, 0, teacher -> x.sent(teacher, 61, 61) == 0);
            for (int teacher : new int[] {-1, 2, 40}) due(NONE, x.sent(teacher, 61, 61));
            due(0, x.sent(0, 52, 61));
            due(NONE, x.sent(0, 0, 61));
            due(NONE, x.sent(0, 61, 0));
            for (int week : new int[] {-1, 62}) due(NONE, x.sent(0, week, 61));
            for (int q : new int[] {-1, 62}) due(NONE, x.sent(0, 61, q));
            due(0, x.sent(0, 61, 1));
        });
    }

    private static void teacherless() {
        holds(37, "TEACHERLESS: CLASSES without one.", () -> {
            EveryChild x = school();
            x.teacher(0, 0, 1, 12);
            x.teacher(0, 0, 4, 12);
            pass(x, 59);
            due(2, x.teacherless(0, 60, 60));
            due(3, x.teacherless(0, 51, 60));
            int[][] shifts = {{9, 5}, {2, 5}, {1, 2}, {0, 2}};
            for (int[] s : shifts) {
                law(x, 1, 0, "s:" + s[0]);
                due(s[1], x.teacherless(0, 60, 60));
            }
            law(x, 1, 0, "s:0-5");
            due(2, x.teacherless(0, 60, 60));
            for (int k = 0; k < 4; k++) x.teacher(0, 0, 2, 12);
            due(0, x.teacherless(0, 60, 60));
            due(NONE, x.sent(4, 60, 60));
            law(x, 1, 0, "t:0");
            due(3, x.teacherless(0, 60, 60));
            law(x, 1, 1, "s:2");
            due(6, x.teacherless(0, 60, 60));
            due(3, x.teacherless(0, 51, 60));
        });
        holds(37, "TEACHERLESS in a SCHOOL (NONE: in all).", () -> {
            EveryChild x = school();
            x.school(0, 0, 2, 1, 1);
            pass(x, 1);
            due(3, x.teacherless(0, 2, 2));
            due(2, x.teacherless(1, 2, 2));
            due(5, x.teacherless(NONE, 2, 2));
            due(3, x.teacherless(NONE, 2, 0));
            due(3, x.teacherless(NONE, 1, 2));
        });
        holds(37, "NONE: no such ones.", () -> {
            EveryChild x = school();
            pass(x, 1);
            edges(NONE, 0, s -> x.teacherless(s, 2, 2) == 3);
            for (int s : new int[] {-2, 1, 20}) due(NONE, x.teacherless(s, 2, 2));
            past(x, NONE, week -> x.teacherless(0, week, 0));
            past(x, NONE, q -> x.teacherless(0, 0, q));
            past(x, NONE, week -> x.teacherless(NONE, week, 0));
            past(x, NONE, q -> x.teacherless(NONE, 0, q));
        });
    }
}
