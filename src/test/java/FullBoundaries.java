import java.util.Random;

/** As many of all as there may be: what is asked of the last ones; and the most that can be seated, tried out by sets. */
final class FullBoundaries extends Sentences {
    static void all() {
        lastVillage();
        lastSchool();
        lastTeacher();
        lastSite();
        mostBySets();
    }

    /** Villages of one girl each on the cells 0 to 19, the last five on cell 19; schools on these cells; no walks by law. */
    private static EveryChild full() {
        EveryChild x = supplied();
        law(x, NONE, 0, "w:0;h:1");
        for (int v = 0; v < 24; v++) {
            x.village(Math.min(v, 19), 3, 7);
            x.count(v, 0, 1, 0);
        }
        for (int s = 0; s < 20; s++) x.school(s, 3, 1, 2, 128);
        for (int t = 0; t < 40; t++) x.teacher(0, 9, 128, 12);
        pass(x, 60);
        due(20, x.many(3));
        return x;
    }

    private static void lastVillage() {
        holds(23, "VILLAGES (24 at most)", () -> {
            EveryChild x = full();
            due(1, x.child(23, 0, 60, 0));
            due(4, x.unseated(NONE, 60, 60));
            due(1, x.unseated(23, 60, 60));
            due(0, x.unseated(19, 60, 60));
            due(20, x.most(60, 60));
            due(0, x.seated(23, NONE, 60, 60));
            due(24, x.span(3, 1, 60, 0));
            x.recount(23, 1, 2);
            due(48, x.span(3, 1, 60, 1));
            x.site(19);
            due(1, x.cover((1 << 24) - (1 << 19), 0));
            due(NONE, x.cover((1 << 24) - (1 << 18), 0));
            due(18, x.beyond((1 << 24) - (1 << 18), 0));
            due(-1, x.judge(1, 1 << 23, 0));
            due(23, x.judge(0, 1 << 23, 0));
            x.row(0x01000000, 0);
            due(0, x.plan(1, 1 << 23, 0));
            for (int v = 22; v < 24; v++) x.treat(v, 1);
            x.count(23, 1, 1, 1);
            x.count(23, 2, 1, 0);
            // 500 by 2, less none of 22
            due(250, x.stay(3, 2, 60));
            for (int v = 0; v < 22; v++) x.treat(v, 1);
            due(UNTOLD, x.stay(3, 2, 60));
        });
    }

    private static void lastSchool() {
        holds(21, "SCHOOLS (20 at most)", () -> {
            EveryChild x = full();
            for (int s = 0; s < 20; s++) {
                due(1, x.places(s, 60, 60));
                due(1, x.seated(s, s, 60, 60));
                for (int v = 0; v < 24; v++) due(Math.min(v, 19) == s ? 1 : 0, x.reach(v, s, 60, 60));
            }
            due(1, x.seated(19, NONE, 60, 60));
            x.count(19, 0, 0, 0);
            due(1, x.seated(20, 19, 60, 60));
            x.maker(0, 1, 600, 600);
            for (int s = 0; s < 20; s++) yes(x.roof(s, 0, 0));
            yes(x.shut(19, true));
            due(1, x.schooled(19, 1));
            due(0, x.schooled(18, 1));
            due(0, x.places(19, 60, 60));
            due(1, x.places(18, 60, 60));
            due(1, x.places(19, 59, 59));
            due(19, x.most(60, 60));
            due(1, x.schooled(19, 7));
            due(20, x.wind(3, 300));
            due(0, x.schooled(19, 7));
            yes(x.far(19, true));
            yes(x.promise(23, 19));
            yes(x.give(23, 19, 1));
            due(NONE, x.lack(19));
            for (int kind = 0; kind < 5; kind++) due(0, x.parts(19, kind));
            EveryChild poor = new EveryChild();
            for (int s = 0; s < 20; s++) poor.school(0, 0, 20, 1, 1);
            for (int v = 0; v < 24; v++) poor.village(0, 0, 0);
            due(60, poor.parts(19, 4));
            due(0, poor.lack(19));
            pass(poor, 1);
            poor.lorry(30);
            poor.maker(0, 50, 0, 600);
            // 20 a week to one after the other
            pass(poor, 19);
            due(20, poor.parts(19, 0));
            due(0, poor.parts(18, 0));
            pass(poor, 1);
            due(0, poor.parts(19, 0));
            due(1, poor.lack(19));
        });
    }

    private static void lastTeacher() {
        holds(36, "TEACHERS (40 at most)", () -> {
            EveryChild x = full();
            for (int t = 0; t < 40; t++) due(t < 20 ? t : NONE, x.sent(t, 60, 60));
            law(x, NONE, 0, "s:2");
            for (int t = 0; t < 40; t++) due(t / 2, x.sent(t, 60, 60));
            due(0, x.teacherless(19, 60, 60));
            due(0, x.teacherless(NONE, 60, 60));
            due(40, x.teacherless(NONE, 51, 60));
            due(2, x.teacherless(19, 51, 60));
            law(x, 3, 0, "s:3;t:l=7&r=9&x=1?1;t:0");
            due(19, x.sent(39, 60, 60));
            law(x, 3, 0, "t:0");
            due(NONE, x.sent(39, 60, 60));
            due(40, x.teacherless(NONE, 60, 60));
        });
        holds(36, "t: x YEARS since the TEACHER was trained, r its RANK, l the TONGUE taught;", () -> {
            EveryChild x = supplied();
            x.school(0, 3, 1, 1, 255);
            x.teacher(2, 6, 4, 12);
            law(x, 3, 0, "t:x=3&r=6&l=2&y=5&i=3&n=0?1;t:0");
            pass(x, 600);
            for (int year = 0; year < 12; year++) due(year == 5 ? 0 : NONE, x.sent(0, 52 * year, 600));
        });
    }

    private static void lastSite() {
        holds(50, "6 ROWS at most", () -> {
            EveryChild x = new EveryChild();
            for (int k = 0; k < 9; k++) {
                x.site(13 * k);
                x.village(13 * k, 0, 0);
            }
            law(x, NONE, 0, "w:0");
            for (int k = 0; k < 6; k++) due(k, x.row(0x01010101, k < 5 ? 0x01010102 : 0x01010101));
            due(511, x.cover(511, 0));
            due(NONE, x.plan(511, 511, 0));
            due(7, x.plan(511, 255, 0));
            due(0, x.plan(511, 256, 0));
            due(8, x.judge(255, 511, 0));
        });
        holds(50, "for YEARS 0 .. 7;", () -> {
            EveryChild x = new EveryChild();
            for (int k = 0; k < 2; k++) {
                x.site(5 * k);
                x.village(5 * k, 0, 0);
            }
            law(x, NONE, 0, "w:0");
            x.row(0, 0x01000000);
            due(4, x.plan(3, 1, 0));
            due(NONE, x.plan(3, 3, 0));
            x.row(0x02000000, 0);
            due(NONE, x.plan(3, 3, 0));
            due(4, x.plan(3, 1, 0));
        });
    }

    private static void mostBySets() {
        holds(24, "MOST: how many CHILDREN in all could be SEATED, however they are parted", () -> {
            for (int seed = 0; seed < 300; seed++) {
                Random random = new Random(seed);
                EveryChild x = supplied();
                law(x, NONE, 0, "h:1;s:3;f:1;w:60");
                int villages = 1 + random.nextInt(7);
                int schools = 1 + random.nextInt(7);
                int few = 1 + random.nextInt(5);
                for (int v = 0; v < villages; v++) {
                    x.village(random.nextInt(12), 0, random.nextInt(8));
                    x.count(v, 0, random.nextInt(few), random.nextInt(few));
                }
                for (int s = 0; s < schools; s++) x.school(random.nextInt(12), 0, 1 + random.nextInt(2), 1 + random.nextInt(3), 1 + random.nextInt(255));
                pass(x, 6);
                due(leastCut(x, villages, schools), x.most(6, 6));
                oneByOne(x, villages, schools);
            }
        });
    }

    /** Of all sets of villages the least: the children of the others, and the places within reach of one of the set. */
    private static int leastCut(EveryChild x, int villages, int schools) {
        int least = MAX;
        for (int set = 0; set < 1 << villages; set++) {
            int sum = 0;
            for (int v = 0; v < villages; v++) if ((set >> v & 1) == 0) sum += children(x, v);
            for (int s = 0; s < schools; s++) {
                boolean reached = false;
                for (int v = 0; v < villages; v++) reached |= (set >> v & 1) == 1 && x.reach(v, s, 6, 6) == 1;
                if (reached) sum += x.places(s, 6, 6);
            }
            least = Math.min(least, sum);
        }
        return least;
    }

    private static int children(EveryChild x, int village) {
        return x.child(village, 0, 6, 0) + x.child(village, 0, 6, 1);
    }

    /** The seats of each village add up, and no place within reach is left to who is unseated. */
    private static void oneByOne(EveryChild x, int villages, int schools) {
        int out = 0;
        for (int v = 0; v < villages; v++) {
            int sum = 0;
            for (int s = 0; s < schools; s++) sum += x.seated(v, s, 6, 6);
            due(sum, x.seated(v, NONE, 6, 6));
            due(children(x, v) - sum, x.unseated(v, 6, 6));
            out += children(x, v) - sum;
        }
        due(out, x.unseated(NONE, 6, 6));
        for (int s = 0; s < schools; s++) {
            int left = x.places(s, 6, 6);
            for (int v = 0; v < villages; v++) {
                // who is left over finds no place within reach when its turn comes
                left -= x.seated(v, s, 6, 6);
                if (x.unseated(v, 6, 6) > 0 && x.reach(v, s, 6, 6) == 1) due(0, left);
            }
            yes(left >= 0);
        }
    }
}
