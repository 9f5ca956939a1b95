/** Promises 20 to 24: places, reach, who is seated. */
final class SeatBoundaries extends Sentences {
    static void all() {
        places();
        knownPlaces();
        reach();
        tongues();
        seated();
        unseated();
        most();
    }

    /** A school of three rooms and two shifts in shire 1, built in week 1. */
    private static EveryChild school() {
        EveryChild x = supplied();
        x.school(0, 1, 3, 2, 1);
        pass(x, 1);
        return x;
    }

    private static void places() {
        holds(20, "PLACES of a SCHOOL in a WEEK as known in q: 0, if it is not BUILT by then, or SHUT; else rooms, the lesser of its shifts"
            + " and WORTH of s (1 at least), and WORTH of h (0 at least) multiplied.", () -> {
            EveryChild x = school();
            due(0, x.places(0, 0, 1));
            due(3 * 40, x.places(0, 1, 1));
            int[][] shifts = {{9, 2}, {3, 2}, {2, 2}, {1, 1}, {0, 1}};
            for (int[] s : shifts) {
                law(x, NONE, 0, "s:" + s[0]);
                due(3 * s[1] * 40, x.places(0, 1, 1));
            }
            law(x, NONE, 0, "s:0-1");
            due(3 * 40, x.places(0, 1, 1));
            law(x, NONE, 0, "s:0-9999*9999");
            due(3 * 40, x.places(0, 1, 1));
            law(x, NONE, 0, "s:2");
            for (int heads : new int[] {0, 1, 2, 9999}) {
                law(x, NONE, 0, "h:" + heads);
                due(6 * heads, x.places(0, 1, 1));
            }
            law(x, NONE, 0, "h:0-1");
            due(0, x.places(0, 1, 1));
            law(x, NONE, 0, "h:9999*9999");
            due(6000000, x.places(0, 1, 1));
            // it is the school's own shire's law
            law(x, 0, 0, "h:7;s:1");
            due(6000000, x.places(0, 1, 1));
            law(x, 1, 0, "h:7;s:1");
            due(21, x.places(0, 1, 1));
            x.shut(0, true);
            due(0, x.places(0, 1, 1));
            x.shut(0, false);
            due(21, x.places(0, 1, 1));
        });
        holds(20, "(The YEAR is the WEEK's.)", () -> {
            EveryChild x = school();
            pass(x, 104);
            law(x, 1, 1, "h:5");
            law(x, 1, 2, "h:6");
            due(120, x.places(0, 51, 105));
            due(15, x.places(0, 52, 105));
            due(15, x.places(0, 103, 105));
            due(18, x.places(0, 104, 105));
            due(120, x.places(0, 105, 104));
        });
    }

    private static void knownPlaces() {
        holds(20, "As known in q: a SCHOOL told behind q has no PLACES and no CLASSES (reach() is asked of all),"
            + " a TEACHER told behind q is none;", () -> {
            EveryChild x = supplied();
            x.village(0, 0, 0);
            x.count(0, 0, 100, 0);
            pass(x, 5);
            x.school(0, 0, 1, 1, 1);
            pass(x, 3);
            due(6, x.schooled(0, 0));
            due(0, x.places(0, 6, 4));
            due(40, x.places(0, 6, 5));
            due(0, x.seated(0, 0, 6, 4));
            due(40, x.seated(0, 0, 6, 5));
            due(0, x.most(6, 4));
            due(40, x.most(6, 5));
            due(0, x.teacherless(0, 6, 4));
            due(1, x.teacherless(0, 6, 5));
            due(1, x.reach(0, 0, 0, 0));
            due(1, x.reach(0, 0, 6, 4));
        });
        holds(20, "in which WEEK a SCHOOL was BUILT is known at once.", () -> {
            EveryChild x = supplied();
            pass(x, 2);
            x.school(0, 0, 1, 1, 1);
            pass(x, 5);
            due(3, x.schooled(0, 0));
            due(40, x.places(0, 3, 2));
            due(0, x.places(0, 2, 7));
            due(0, x.places(0, 7, 1));
            due(40, x.places(0, 7, 2));
        });
        holds(20, "PLACES.", () -> due(120, school().places(0, 1, 1)));
        holds(20, "NONE: no such SCHOOL, WEEK (0 .. NOW), q.", () -> {
            EveryChild x = school();
            pass(x, 2);
            edges(0, 0, s -> x.places(s, 3, 3) == 120);
            edges(0, 3, week -> x.places(0, week, 3) != NONE);
            edges(0, 3, q -> x.places(0, 3, q) != NONE);
            for (int s : new int[] {-1, 1, 20}) due(NONE, x.places(s, 0, 0));
            past(x, NONE, week -> x.places(0, week, 0));
            past(x, NONE, q -> x.places(0, 0, q));
        });
    }

    private static void reach() {
        holds(21, "REACH: a SCHOOL is within REACH of a VILLAGE in a WEEK, if the WALK to it is at most WORTH of w (of the VILLAGE's SHIRE), dry,"
            + " or wet in WEEKS that are told to be wet (as it is told now),", () -> {
            EveryChild x = new EveryChild();
            x.village(0, 1, 0);
            x.school(6, 2, 1, 1, 1);
            due(1, x.reach(0, 0, 0, 0));
            x.school(7, 2, 1, 1, 1);
            due(0, x.reach(0, 1, 0, 0));
            law(x, 2, 0, "w:70");
            due(0, x.reach(0, 1, 0, 0));
            law(x, 1, 0, "w:70");
            due(1, x.reach(0, 1, 0, 0));
            law(x, 1, 0, "w:69");
            due(0, x.reach(0, 1, 0, 0));
            // the walk goes to the school: onto its cell, not onto the village's
            x.draw(7, 0, 1, 1, 9, 15);
            due(1, x.reach(0, 1, 0, 0));
            x.draw(0, 0, 1, 1, 99, 99);
            due(1, x.reach(0, 1, 0, 0));
            law(x, 1, 0, "w:89");
            x.rain(0, 0, true);
            pass(x, 1);
            due(0, x.reach(0, 0, 0, 1));
            due(1, x.reach(0, 0, 1, 1));
            law(x, 1, 0, "w:90");
            due(1, x.reach(0, 0, 0, 1));
            law(x, 1, 0, "w:89");
            x.rain(0, 0, false);
            due(1, x.reach(0, 0, 0, 0));
            x.rain(0, 1, true);
            due(0, x.reach(0, 0, 1, 1));
            // there may be no way
            law(x, 1, 0, "w:9999*9999");
            due(1, x.reach(0, 0, 1, 1));
            x.draw(3, 0, 1, 10, 10, 0);
            due(0, x.reach(0, 0, 1, 1));
            x.school(0, 2, 1, 1, 1);
            law(x, 1, 0, "w:0");
            due(1, x.reach(0, 2, 1, 1));
            law(x, 1, 0, "w:0-1");
            due(0, x.reach(0, 2, 1, 1));
        });
        holds(21, "(The YEAR is the WEEK's.)", () -> {
            EveryChild x = new EveryChild();
            x.village(0, 0, 0);
            x.school(6, 0, 1, 1, 2);
            law(x, 0, 1, "w:59");
            law(x, 0, 2, "w:60;f:1");
            law(x, 0, 3, "f:0");
            pass(x, 160);
            int[][] asked = {{51, 1}, {52, 0}, {103, 0}, {104, 0}, {155, 0}, {156, 1}};
            for (int[] a : asked) due(a[1], x.reach(0, 0, a[0], 160));
        });
    }

    private static void tongues() {
        holds(21, "and, with WORTH of f (the SCHOOL's SHIRE) unlike 0, if it has the VILLAGE's TONGUE.", () -> {
            for (int tongue = 0; tongue < 8; tongue++) {
                EveryChild x = new EveryChild();
                x.village(0, 1, tongue);
                x.school(0, 2, 1, 1, 1 << tongue);
                x.school(0, 2, 1, 1, 255 - (1 << tongue));
                due(1, x.reach(0, 1, 0, 0));
                law(x, 1, 0, "f:1");
                due(1, x.reach(0, 1, 0, 0));
                law(x, 2, 0, "f:1");
                due(0, x.reach(0, 1, 0, 0));
                due(1, x.reach(0, 0, 0, 0));
                law(x, 2, 0, "f:0-1");
                due(0, x.reach(0, 1, 0, 0));
                law(x, 2, 0, "f:0");
                due(1, x.reach(0, 1, 0, 0));
            }
        });
        holds(21, "Whether a SCHOOL is within REACH (1, 0; BUILT or not).", () -> {
            EveryChild x = supplied();
            x.village(0, 0, 0);
            x.school(6, 0, 1, 1, 1);
            x.school(7, 0, 1, 1, 1);
            due(1, x.reach(0, 0, 0, 0));
            due(0, x.reach(0, 1, 0, 0));
            pass(x, 1);
            due(1, x.reach(0, 0, 1, 1));
            due(0, x.reach(0, 1, 1, 1));
            x.shut(0, true);
            due(1, x.reach(0, 0, 1, 1));
        });
        holds(21, "NONE: no such ones.", () -> {
            EveryChild x = new EveryChild();
            x.village(0, 0, 0);
            x.school(0, 0, 1, 1, 1);
            pass(x, 2);
            edges(0, 0, v -> x.reach(v, 0, 0, 0) == 1);
            edges(0, 0, s -> x.reach(0, s, 0, 0) == 1);
            for (int k : new int[] {-1, 1, 20, 24}) {
                due(NONE, x.reach(k, 0, 0, 0));
                due(NONE, x.reach(0, k, 0, 0));
            }
            past(x, NONE, week -> x.reach(0, 0, week, 0));
            past(x, NONE, q -> x.reach(0, 0, 0, q));
        });
    }

    /** Two schools of twenty places each, one beside the first village, three villages in a line. */
    private static EveryChild three() {
        EveryChild x = supplied();
        law(x, NONE, 0, "h:20;w:20");
        x.village(1, 0, 0);
        x.village(2, 0, 0);
        x.village(5, 0, 0);
        x.school(3, 0, 1, 1, 1);
        x.school(0, 0, 1, 1, 1);
        x.count(0, 0, 8, 4);
        x.count(1, 0, 13, 4);
        x.count(2, 0, 6, 6);
        pass(x, 1);
        return x;
    }

    private static void seated() {
        holds(22, "SEATED in a WEEK as known in q: VILLAGES, rising: its CHILDREN, as many as there are places left, in SCHOOLS within REACH,"
            + " the nearest (by the WALK) first, of alike ones the lower.", () -> {
            EveryChild x = three();
            int[][] seats = {{0, 12}, {17, 0}, {3, 0}};
            for (int v = 0; v < 3; v++)
                for (int s = 0; s < 2; s++) due(seats[v][s], x.seated(v, s, 1, 1));
            for (int v = 0; v < 3; v++) due(0, x.seated(v, 0, 0, 1));
            x.count(1, 0, 12, 9);
            due(20, x.seated(1, 0, 1, 1));
            due(1, x.seated(1, 1, 1, 1));
            due(0, x.seated(2, 0, 1, 1));
            x.count(1, 0, 12, 8);
            due(20, x.seated(1, 0, 1, 1));
            due(0, x.seated(1, 1, 1, 1));
            x.count(1, 0, 12, 17);
            due(8, x.seated(1, 1, 1, 1));
            x.count(1, 0, 12, 16);
            due(8, x.seated(1, 1, 1, 1));
            pass(x, 1);
            x.count(0, 0, 0, 0);
            due(12, x.seated(0, 1, 2, 1));
            due(0, x.seated(0, 1, 2, 2));
            // a single place, a single child
            EveryChild single = supplied();
            law(single, NONE, 0, "h:1");
            single.village(0, 0, 0);
            single.count(0, 0, 0, 2);
            single.school(0, 0, 1, 1, 1);
            single.school(1, 0, 1, 1, 1);
            pass(single, 1);
            due(1, single.seated(0, 0, 1, 1));
            due(1, single.seated(0, 1, 1, 1));
            due(2, single.most(1, 1));
            single.count(0, 0, 1, 0);
            due(1, single.seated(0, 0, 1, 1));
            due(0, single.seated(0, 1, 1, 1));
            due(1, single.most(1, 1));
            // alike ones: the lower, whichever stands first on the land
            EveryChild alike = supplied();
            alike.village(1, 0, 0);
            alike.count(0, 0, 50, 0);
            alike.school(2, 0, 1, 1, 1);
            alike.school(0, 0, 1, 1, 1);
            alike.school(13, 0, 1, 1, 1);
            pass(alike, 1);
            due(40, alike.seated(0, 0, 1, 1));
            due(10, alike.seated(0, 1, 1, 1));
            due(0, alike.seated(0, 2, 1, 1));
            // by the walk of the week: the way to the third is short when it rains
            alike.draw(1, 1, 1, 1, 10, 1);
            alike.rain(1, 1, true);
            due(40, alike.seated(0, 2, 1, 1));
            due(10, alike.seated(0, 0, 1, 1));
            alike.shut(2, true);
            due(0, alike.seated(0, 2, 1, 1));
        });
        holds(22, "(The YEAR is the WEEK's.)", () -> {
            EveryChild x = supplied();
            x.village(0, 0, 0);
            x.school(0, 0, 1, 1, 1);
            x.count(0, 0, 5, 0);
            x.count(0, 1, 9, 0);
            pass(x, 60);
            due(5, x.seated(0, 0, 51, 60));
            due(9, x.seated(0, 0, 52, 60));
            due(9, x.most(52, 60));
            due(5, x.most(51, 60));
        });
        holds(22, "CHILDREN of a VILLAGE SEATED in a SCHOOL (NONE: in all).", () -> {
            EveryChild x = three();
            x.count(1, 0, 12, 13);
            due(20, x.seated(1, 0, 1, 1));
            due(5, x.seated(1, 1, 1, 1));
            due(25, x.seated(1, NONE, 1, 1));
            due(0, x.seated(2, NONE, 1, 1));
        });
        holds(22, "NONE: no such ones.", () -> {
            EveryChild x = three();
            pass(x, 1);
            edges(0, 2, v -> x.seated(v, 0, 1, 1) >= 0);
            edges(NONE, 1, s -> x.seated(0, s, 1, 1) >= 0);
            for (int v : new int[] {-1, 3, 24}) due(NONE, x.seated(v, 0, 1, 1));
            for (int s : new int[] {-2, 2, 20}) due(NONE, x.seated(0, s, 1, 1));
            past(x, NONE, week -> x.seated(0, 0, week, 0));
            past(x, NONE, q -> x.seated(0, 0, 0, q));
        });
    }

    private static void unseated() {
        holds(23, "UNSEATED: the rest.", () -> {
            EveryChild x = three();
            due(0, x.unseated(0, 1, 1));
            due(0, x.unseated(1, 1, 1));
            due(9, x.unseated(2, 1, 1));
            due(12, x.unseated(2, 0, 1));
            x.count(2, 0, 0, 0);
            due(0, x.unseated(2, 1, 1));
            x.count(2, 0, 2, 1);
            due(0, x.unseated(2, 1, 1));
            x.count(2, 0, 2, 2);
            due(1, x.unseated(2, 1, 1));
        });
        holds(23, "UNSEATED of a VILLAGE (NONE: of all).", () -> {
            EveryChild x = three();
            due(9, x.unseated(NONE, 1, 1));
            due(41, x.unseated(NONE, 0, 1));
            x.count(0, 0, 30, 0);
            due(0, x.unseated(0, 1, 1));
            due(7, x.unseated(1, 1, 1));
            due(12, x.unseated(2, 1, 1));
            due(19, x.unseated(NONE, 1, 1));
        });
        holds(23, "NONE: no such ones.", () -> {
            EveryChild x = three();
            pass(x, 1);
            edges(NONE, 2, v -> x.unseated(v, 1, 1) >= 0);
            for (int v : new int[] {-2, 3, 24}) due(NONE, x.unseated(v, 1, 1));
            past(x, NONE, week -> x.unseated(0, week, 0));
            past(x, NONE, q -> x.unseated(0, 0, q));
            past(x, NONE, week -> x.unseated(NONE, week, 0));
            past(x, NONE, q -> x.unseated(NONE, 0, q));
        });
    }

    private static void most() {
        holds(24, "MOST: how many CHILDREN in all could be SEATED, however they are parted among SCHOOLS within REACH.", () -> {
            EveryChild x = three();
            due(40, x.most(1, 1));
            due(0, x.most(0, 1));
            due(32, x.seated(0, NONE, 1, 1) + x.seated(1, NONE, 1, 1) + x.seated(2, NONE, 1, 1));
            x.count(2, 0, 6, 5);
            due(40, x.most(1, 1));
            x.count(2, 0, 6, 4);
            due(39, x.most(1, 1));
            x.count(2, 0, 0, 0);
            due(29, x.most(1, 1));
            x.count(2, 0, 6, 6);
            // what lies behind the reach of all is not filled
            x.shut(0, true);
            due(20, x.most(1, 1));
            x.shut(0, false);
            law(x, NONE, 0, "h:20;w:0");
            due(0, x.most(1, 1));
        });
        holds(24, "however they are parted among SCHOOLS within REACH.", () -> {
            EveryChild x = supplied();
            law(x, NONE, 0, "h:10;w:10");
            // schools and villages by turns: for the last village all the others move over by one school
            for (int k = 0; k < 5; k++) {
                x.school(2 * k, 0, 1, 1, 1);
                x.village(2 * k + 1, 0, 0);
                x.count(k, 0, 10, 0);
            }
            x.village(0, 0, 0);
            x.count(5, 0, 7, 0);
            x.school(10, 0, 1, 1, 1);
            pass(x, 4);
            due(7, x.unseated(NONE, 4, 4));
            due(57, x.most(4, 4));
            x.shut(5, true);
            due(50, x.most(4, 4));
            x.shut(5, false);
            x.count(3, 0, 10, 5);
            due(60, x.most(4, 4));
            // those that moved in move on
            EveryChild tongues = supplied();
            law(tongues, NONE, 0, "h:1;f:1");
            int[][] villages = {{0, 0, 10}, {0, 1, 3}, {0, 1, 3}, {1, 3, 8}, {1, 4, 8}};
            int[][] schools = {{0, 6, 3}, {0, 10, 9}, {0, 8, 1}, {1, 8, 24}};
            for (int v = 0; v < 5; v++) {
                tongues.village(villages[v][0], 0, villages[v][1]);
                tongues.count(v, 0, villages[v][2], 0);
            }
            for (int[] s : schools) tongues.school(s[0], 0, s[1], 1, s[2]);
            pass(tongues, 10);
            due(18, tongues.seated(0, NONE, 10, 10) + tongues.seated(3, 3, 10, 10));
            due(32, tongues.most(10, 10));
        });
        holds(24, "MOST.", () -> due(40, three().most(1, 1)));
        holds(24, "NONE: no such WEEK, q.", () -> {
            EveryChild x = three();
            pass(x, 1);
            past(x, NONE, week -> x.most(week, 0));
            past(x, NONE, q -> x.most(0, q));
        });
    }
}
