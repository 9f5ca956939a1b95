/** Promises 29 to 34: makers, lorries, parts, what villages give, what a school lacks. */
final class YardBoundaries extends Sentences {
    static void all() {
        makers();
        lorries();
        parts();
        weekBegins();
        lorriesGo();
        roads();
        built();
        promised();
        given();
        lack();
    }

    private static void makers() {
        holds(29, "MAKERS (8 at most): a kind, how many a WEEK (1 .. 50), from a WEEK (0 .. 600) on, to a WEEK (0 .. 600), both too.", () -> {
            edges(0, 4, kind -> new EveryChild().maker(kind, 1, 0, 600) == 0);
            edges(1, 50, many -> new EveryChild().maker(0, many, 0, 600) == 0);
            edges(0, 600, from -> new EveryChild().maker(0, 1, from, 600) == 0);
            edges(0, 600, to -> new EveryChild().maker(0, 1, 0, to) == 0);
            EveryChild x = new EveryChild();
            x.maker(0, 7, 2, 3);
            x.maker(1, 50, 599, 600);
            x.maker(2, 1, 4, 4);
            x.maker(3, 1, 0, 1);
            int[] made = {0, 0, 7, 14, 14};
            for (int week = 0; week < 5; week++) {
                due(made[week], x.parts(NONE, 0));
                due(week < 4 ? 0 : 1, x.parts(NONE, 2));
                due(week < 1 ? 0 : 1, x.parts(NONE, 3));
                x.weeks(1);
            }
            pass(x, 593);
            due(0, x.parts(NONE, 1));
            pass(x, 1);
            due(50, x.parts(NONE, 1));
            pass(x, 1);
            due(100, x.parts(NONE, 1));
            due(14, x.parts(NONE, 0));
            EveryChild y = new EveryChild();
            for (int k = 0; k < 8; k++) due(k, y.maker(0, 1, 0, 600));
            due(NONE, y.maker(0, 1, 0, 600));
        });
        holds(29, "A MAKER: its number.", () -> {
            EveryChild x = new EveryChild();
            for (int k = 0; k < 8; k++) due(k, x.maker(k % 5, 1 + k, 0, 600));
            due(8, x.many(7));
        });
        holds(29, "NONE: out of bounds, to ahead of from, there are eight.", () -> {
            EveryChild x = new EveryChild();
            int[][] none = {{-1, 1, 0, 600}, {5, 1, 0, 600}, {0, 0, 0, 600}, {0, 51, 0, 600}, {0, 1, -1, 600}, {0, 1, 601, 601}, {0, 1, 0, 601},
                {0, 1, -1, -1}, {0, 1, 5, 4}, {0, 1, 600, 0}, {0, 1, 1, 0}};
            for (int[] a : none) due(NONE, x.maker(a[0], a[1], a[2], a[3]));
            due(0, x.many(7));
            due(0, x.maker(0, 1, 5, 5));
            for (int k = 1; k < 7; k++) x.maker(0, 1, 5, 5);
            due(7, x.maker(4, 50, 600, 600));
            due(NONE, x.maker(4, 50, 600, 600));
            due(8, x.many(7));
            pass(x, 10);
            due(7, x.many(17));
        });
    }

    private static void lorries() {
        holds(30, "LORRIES (10 at most): each carries so many PARTS (1 .. 30).", () -> {
            edges(1, 30, carries -> new EveryChild().lorry(carries) == 0);
            for (int carries : new int[] {1, 2, 29, 30}) {
                EveryChild x = new EveryChild();
                x.maker(0, 50, 0, 600);
                x.maker(1, 50, 0, 600);
                x.school(0, 0, 20, 1, 1);
                x.lorry(carries);
                pass(x, 1);
                due(100 - carries, x.many(17));
                due(20 - Math.min(20, carries), x.parts(0, 0));
                due(40 - Math.max(0, carries - 20), x.parts(0, 1));
            }
            EveryChild x = new EveryChild();
            for (int k = 0; k < 10; k++) due(k, x.lorry(1));
            due(NONE, x.lorry(1));
        });
        holds(30, "A LORRY: its number.", () -> {
            EveryChild x = new EveryChild();
            for (int k = 0; k < 10; k++) due(k, x.lorry(1 + k));
            due(10, x.many(8));
        });
        holds(30, "NONE: out of bounds, there are ten.", () -> {
            EveryChild x = new EveryChild();
            for (int carries : new int[] {-1, 0, 31, MIN, MAX}) due(NONE, x.lorry(carries));
            due(0, x.many(8));
            for (int k = 0; k < 9; k++) x.lorry(1);
            due(9, x.lorry(1));
            due(NONE, x.lorry(1));
            due(10, x.many(8));
            // ten go, an eleventh does not
            x.maker(2, 50, 0, 600);
            x.school(0, 0, 20, 1, 1);
            pass(x, 1);
            due(70, x.parts(0, 2));
        });
    }

    private static void parts() {
        holds(31, "PARTS, five kinds.", () -> {
            EveryChild x = new EveryChild();
            for (int kind = 0; kind < 5; kind++) x.maker(kind, 10 + kind, 0, 600);
            pass(x, 1);
            for (int kind = 0; kind < 5; kind++) due(10 + kind, x.parts(NONE, kind));
            due(60, x.many(17));
        });
        holds(31, "NEEDS of a SCHOOL as it is told: rooms times 1, 2, 4, 1, 3 of kinds 0 .. 4.", () -> {
            int[] perRoom = {1, 2, 4, 1, 3};
            for (int rooms = 1; rooms <= 20; rooms++) {
                EveryChild x = new EveryChild();
                x.school(0, 0, rooms, 3, 1);
                for (int kind = 0; kind < 5; kind++) due(rooms * perRoom[kind], x.parts(0, kind));
            }
        });
        holds(31, "PARTS of a kind in the yard (school NONE), or still needed by a SCHOOL.", () -> {
            EveryChild x = new EveryChild();
            x.maker(2, 3, 0, 600);
            x.school(0, 0, 2, 1, 1);
            pass(x, 1);
            due(3, x.parts(NONE, 2));
            due(8, x.parts(0, 2));
            x.lorry(30);
            pass(x, 1);
            due(0, x.parts(NONE, 2));
            due(2, x.parts(0, 2));
            pass(x, 1);
            due(1, x.parts(NONE, 2));
            due(0, x.parts(0, 2));
        });
        holds(31, "NONE: no such ones.", () -> {
            EveryChild x = new EveryChild();
            x.school(0, 0, 1, 1, 1);
            edges(NONE, 0, s -> x.parts(s, 0) != NONE);
            edges(0, 4, kind -> x.parts(0, kind) != NONE);
            edges(0, 4, kind -> x.parts(NONE, kind) != NONE);
            for (int s : new int[] {-2, 1, 20}) due(NONE, x.parts(s, 0));
            for (int kind : new int[] {-1, 5}) {
                due(NONE, x.parts(0, kind));
                due(NONE, x.parts(NONE, kind));
            }
        });
    }

    private static void weekBegins() {
        holds(31, "As each WEEK begins (from 1 on): (1) MAKERS, of kinds rising, then by numbers, bring to the yard what they make in it.", () -> {
            EveryChild x = new EveryChild();
            x.maker(4, 3, 0, 0);
            x.maker(0, 5, 0, 1);
            x.maker(0, 2, 1, 2);
            due(0, x.many(17));
            x.weeks(0);
            due(0, x.many(17));
            pass(x, 1);
            due(7, x.parts(NONE, 0));
            due(0, x.parts(NONE, 4));
            pass(x, 1);
            due(9, x.parts(NONE, 0));
            pass(x, 1);
            due(9, x.many(17));
            // what is told in a week in which it would make comes as the next begins
            x.maker(1, 4, 3, 3);
            x.maker(1, 6, 3, 4);
            pass(x, 1);
            due(6, x.parts(NONE, 1));
        });
        holds(31, "They are there at once.", () -> {
            EveryChild x = supplied();
            x.school(0, 0, 1, 1, 1);
            pass(x, 1);
            due(1, x.schooled(0, 0));
            for (int kind = 0; kind < 5; kind++) due(0, x.parts(0, kind));
        });
    }

    private static void lorriesGo() {
        holds(31, "(2) LORRIES, rising: each goes to the lowest SCHOOL that still needs PARTS which lie in the yard,", () -> {
            EveryChild x = new EveryChild();
            x.maker(1, 3, 1, 1);
            x.maker(4, 50, 2, 2);
            x.lorry(1);
            x.lorry(30);
            x.lorry(30);
            for (int k = 0; k < 3; k++) x.school(119 - k, 0, 1, 1, 1);
            pass(x, 1);
            // the first brings one to 0, the second one more to 0, the third the last to 1
            due(0, x.parts(0, 1));
            due(1, x.parts(1, 1));
            due(2, x.parts(2, 1));
            pass(x, 1);
            due(0, x.parts(0, 4));
            due(0, x.parts(1, 4));
            due(3, x.parts(2, 4));
            pass(x, 1);
            due(0, x.parts(2, 4));
            due(41, x.many(17));
            // what lies there is not needed, what is needed does not lie there
            pass(x, 5);
            due(41, x.many(17));
            due(1, x.parts(0, 0));
        });
        holds(31, "with PARTS of kinds rising, as many as it carries, as are needed and lie there.", () -> {
            EveryChild x = new EveryChild();
            for (int kind = 4; kind >= 0; kind--) x.maker(kind, kind == 2 ? 3 : 6, 1, 1);
            x.lorry(9);
            x.lorry(8);
            x.school(0, 0, 2, 1, 1);
            pass(x, 1);
            // nine: 2 of 0, 4 of 1, the 3 of 2 that lie there; eight: the 2 of 3, the 6 of 4
            int[] left = {0, 0, 5, 0, 0};
            int[] lie = {4, 2, 0, 4, 0};
            for (int kind = 0; kind < 5; kind++) {
                due(left[kind], x.parts(0, kind));
                due(lie[kind], x.parts(NONE, kind));
            }
            EveryChild y = new EveryChild();
            y.maker(0, 6, 1, 1);
            y.maker(3, 6, 1, 1);
            y.lorry(3);
            y.school(0, 0, 2, 1, 1);
            pass(y, 1);
            due(0, y.parts(0, 0));
            due(1, y.parts(0, 3));
            // it goes to one school, though it could carry more
            EveryChild z = new EveryChild();
            z.maker(0, 6, 1, 1);
            z.lorry(30);
            z.school(0, 0, 1, 1, 1);
            z.school(0, 0, 1, 1, 1);
            pass(z, 1);
            due(0, z.parts(0, 0));
            due(1, z.parts(1, 0));
        });
    }

    private static void roads() {
        holds(31, "and to which the road is not shut (in wet WEEKS it is shut to SCHOOLS whose CELL is shut wet, or that was told to be far):", () -> {
            EveryChild x = supplied();
            x.rain(2, 3, true);
            for (int k = 0; k < 4; k++) x.school(k, 0, 20, 1, 1);
            x.draw(0, 0, 1, 1, 10, 0);
            x.far(1, true);
            x.far(2, true);
            x.far(2, false);
            pass(x, 1);
            // dry: to the lowest, shut wet or far or not
            due(0, x.parts(0, 0));
            due(0, x.parts(1, 0));
            due(10, x.parts(2, 0));
            int of0 = x.parts(0, 2);
            int of1 = x.parts(1, 2);
            pass(x, 1);
            due(of0, x.parts(0, 2));
            due(of1, x.parts(1, 2));
            due(0, x.parts(2, 0));
            x.rain(3, 3, false);
            pass(x, 1);
            yes(x.parts(0, 2) < of0);
        });
        holds(31, "or that was told to be far):", () -> {
            EveryChild x = supplied();
            x.rain(1, 600, true);
            x.school(0, 0, 1, 1, 1);
            x.school(1, 0, 1, 1, 1);
            x.far(0, true);
            x.draw(1, 0, 1, 1, 10, 0);
            pass(x, 3);
            due(2, x.parts(0, 1));
            due(2, x.parts(1, 1));
            // one minute wet is enough for a road
            x.draw(1, 0, 1, 1, 10, 1);
            pass(x, 1);
            due(4, x.schooled(1, 0));
            x.far(0, false);
            pass(x, 1);
            due(5, x.schooled(0, 0));
        });
    }

    private static void built() {
        holds(34, "(3) A SCHOOL is BUILT in that WEEK, if it was not, all its PARTS are there, and the VILLAGES gave enough.", () -> {
            EveryChild x = supplied();
            x.village(0, 0, 0);
            law(x, NONE, 0, "v:5");
            x.school(0, 0, 1, 1, 1);
            x.school(0, 0, 1, 1, 1);
            x.promise(0, 1);
            pass(x, 2);
            due(1, x.schooled(0, 0));
            due(NONE, x.schooled(1, 0));
            due(1, x.many(3));
            x.give(0, 1, 5);
            due(NONE, x.schooled(1, 0));
            pass(x, 1);
            due(3, x.schooled(1, 0));
            // once it is built it stays so
            law(x, NONE, 0, "v:1000");
            x.promise(0, 0);
            pass(x, 3);
            due(1, x.schooled(0, 0));
            due(3, x.schooled(1, 0));
            due(2, x.many(3));
            EveryChild y = new EveryChild();
            for (int kind = 0; kind < 5; kind++) y.maker(kind, kind == 2 ? 1 : 50, 1, 600);
            y.lorry(30);
            y.school(0, 0, 1, 1, 1);
            pass(y, 3);
            due(NONE, y.schooled(0, 0));
            pass(y, 1);
            due(4, y.schooled(0, 0));
            // being shut does not keep it from being built
            EveryChild z = supplied();
            z.school(0, 0, 1, 1, 1);
            z.shut(0, true);
            pass(z, 1);
            due(1, z.schooled(0, 0));
        });
    }

    private static EveryChild pair() {
        EveryChild x = new EveryChild();
        x.village(0, 0, 0);
        x.school(0, 0, 1, 1, 1);
        return x;
    }

    private static void promised() {
        holds(32, "A VILLAGE is promised to a SCHOOL.", () -> {
            EveryChild x = supplied();
            x.village(0, 0, 0);
            x.village(0, 0, 0);
            law(x, NONE, 0, "v:5");
            for (int k = 0; k < 3; k++) x.school(0, 0, 1, 1, 1);
            yes(x.promise(0, 1));
            yes(x.promise(1, 2));
            pass(x, 1);
            due(NONE, x.lack(0));
            due(5, x.lack(1));
            due(5, x.lack(2));
            x.give(0, 1, 5);
            x.give(0, 2, 5);
            due(NONE, x.lack(1));
            due(5, x.lack(2));
        });
        holds(32, "False: no such ones, it is.", () -> {
            EveryChild x = pair();
            for (int k : new int[] {-1, 1, 20, 24, MIN, MAX}) {
                no(x.promise(k, 0));
                no(x.promise(0, k));
            }
            yes(x.promise(0, 0));
            no(x.promise(0, 0));
            x.school(0, 0, 1, 1, 1);
            x.village(0, 0, 0);
            yes(x.promise(0, 1));
            yes(x.promise(1, 0));
            no(x.promise(0, 1));
            no(x.promise(1, 0));
            yes(x.promise(1, 1));
        });
    }

    private static void given() {
        holds(33, "GIVING of a VILLAGE to a SCHOOL (200 at most): so much (1 .. 1,000).", () -> {
            edges(1, 1000, much -> pair().give(0, 0, much));
            EveryChild x = pair();
            for (int k = 0; k < 200; k++) yes(x.give(0, 0, 1000));
            no(x.give(0, 0, 1));
        });
        holds(33, "GIVING.", () -> yes(pair().give(0, 0, 1)));
        holds(33, "False: no such ones, out of bounds, there were 200.", () -> {
            EveryChild x = supplied();
            x.village(0, 0, 0);
            x.school(0, 0, 1, 1, 1);
            x.promise(0, 0);
            law(x, NONE, 0, "v:1000*1000");
            for (int k : new int[] {-1, 1, 20, 24, MIN, MAX}) {
                no(x.give(k, 0, 1));
                no(x.give(0, k, 1));
            }
            for (int much : new int[] {-1, 0, 1001, MIN, MAX}) no(x.give(0, 0, much));
            pass(x, 1);
            for (int k = 0; k < 199; k++) yes(x.give(0, 0, 1000));
            law(x, NONE, 0, "v:200*1000");
            due(5, x.lack(0));
            yes(x.give(0, 0, 1000));
            due(NONE, x.lack(0));
            law(x, NONE, 0, "v:200*1000+1");
            no(x.give(0, 0, 1));
            due(5, x.lack(0));
        });
        holds(33, "Enough is, if for each VILLAGE that was promised to it (as told) all that it gave to it is WORTH of v or more (of the VILLAGE's SHIRE,"
            + " in that WEEK's YEAR, as known NOW).", () -> {
            EveryChild x = supplied();
            x.village(0, 1, 0);
            x.village(0, 2, 0);
            x.school(0, 3, 1, 1, 1);
            pass(x, 1);
            due(1, x.schooled(0, 0));
            law(x, NONE, 0, "v:30");
            x.school(0, 3, 1, 1, 1);
            x.promise(0, 1);
            x.promise(1, 1);
            pass(x, 1);
            // all that it gave, to this school, each village by itself
            x.give(0, 1, 10);
            x.give(0, 1, 20);
            x.give(1, 0, 30);
            x.give(1, 1, 29);
            due(5, x.lack(1));
            pass(x, 1);
            due(NONE, x.schooled(1, 0));
            law(x, 3, 0, "v:0");
            law(x, 1, 0, "v:29");
            due(5, x.lack(1));
            law(x, 2, 0, "v:29");
            due(NONE, x.lack(1));
            law(x, 2, 0, "v:30");
            due(5, x.lack(1));
            x.give(1, 1, 1);
            due(NONE, x.lack(1));
            law(x, 1, 0, "v:31");
            law(x, 1, 1, "v:30");
            due(5, x.lack(1));
            pass(x, 51 - x.many(0));
            due(NONE, x.schooled(1, 0));
            due(5, x.lack(1));
            pass(x, 1);
            due(52, x.schooled(1, 0));
            // below 0 and 0 nothing is to be given
            EveryChild y = supplied();
            y.village(0, 0, 0);
            y.school(0, 0, 1, 1, 1);
            y.promise(0, 0);
            pass(y, 1);
            due(1, y.schooled(0, 0));
            y.school(0, 0, 1, 1, 1);
            y.promise(0, 1);
            law(y, NONE, 0, "v:1");
            pass(y, 1);
            due(5, y.lack(1));
            law(y, NONE, 0, "v:0-1");
            due(NONE, y.lack(1));
            // a gift told ahead of the promise counts
            EveryChild z = supplied();
            z.village(0, 0, 0);
            z.school(0, 0, 1, 1, 1);
            law(z, NONE, 0, "v:8");
            z.give(0, 0, 8);
            z.promise(0, 0);
            pass(z, 1);
            due(1, z.schooled(0, 0));
        });
    }

    private static void lack() {
        holds(34, "LACK of a SCHOOL as it is NOW: the lowest kind that it still needs, 5 if the VILLAGES gave too little (in the YEAR of NOW),"
            + " NONE if it is BUILT (or is BUILT as the next WEEK begins).", () -> {
            EveryChild x = new EveryChild();
            x.village(0, 0, 0);
            x.lorry(30);
            law(x, NONE, 0, "v:9");
            law(x, NONE, 1, "v:3");
            x.school(0, 0, 1, 1, 1);
            x.promise(0, 0);
            for (int kind = 0; kind < 5; kind++) {
                due(kind, x.lack(0));
                int first = x.many(0) + 1;
                x.maker(kind, 4, first, first);
                pass(x, 1);
            }
            due(5, x.lack(0));
            x.give(0, 0, 3);
            pass(x, 46);
            due(51, x.many(0));
            due(5, x.lack(0));
            due(NONE, x.schooled(0, 0));
            x.give(0, 0, 5);
            due(5, x.lack(0));
            x.give(0, 0, 1);
            due(NONE, x.lack(0));
            due(NONE, x.schooled(0, 0));
            pass(x, 1);
            due(52, x.schooled(0, 0));
            due(NONE, x.lack(0));
            law(x, NONE, 1, "v:9999");
            due(NONE, x.lack(0));
        });
        holds(34, "LACK.", () -> due(0, pair().lack(0)));
        holds(34, "NONE: none, no such SCHOOL.", () -> {
            EveryChild x = supplied();
            x.school(0, 0, 1, 1, 1);
            edges(0, 0, s -> x.lack(s) == 0);
            for (int s : new int[] {-1, 1, 20}) due(NONE, x.lack(s));
            pass(x, 1);
            due(NONE, x.lack(0));
        });
    }
}
