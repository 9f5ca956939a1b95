/** Promises 25 to 28, 49 and 50: sites, covers, rows, plans. */
final class SiteBoundaries extends Sentences {
    static void all() {
        sites();
        cover();
        near();
        beyond();
        judge();
        rows();
        plan();
        planRefused();
    }

    private static void sites() {
        holds(25, "SITES (9 at most): CELLS.", () -> {
            edges(0, 119, cell -> new EveryChild().site(cell) == 0);
            EveryChild x = new EveryChild();
            for (int k = 0; k < 9; k++) due(k, x.site(0));
            due(NONE, x.site(0));
        });
        holds(25, "A SITE: its number.", () -> {
            EveryChild x = new EveryChild();
            for (int k = 0; k < 9; k++) due(k, x.site(119 - k));
            due(9, x.many(6));
        });
        holds(25, "NONE: no such CELL, there are nine.", () -> {
            EveryChild x = new EveryChild();
            for (int cell : new int[] {-1, 120, MIN, MAX}) due(NONE, x.site(cell));
            due(0, x.many(6));
            for (int k = 0; k < 8; k++) x.site(119);
            due(8, x.site(0));
            due(NONE, x.site(1));
            due(9, x.many(6));
            x.village(0, 0, 0);
            law(x, 0, 0, "w:0");
            due(1 << 8, x.cover(1, 0));
        });
    }

    /** Sites on cells, villages on cells, so many minutes by law. */
    private static EveryChild land(int[] sites, int[] villages, int minutes) {
        EveryChild x = new EveryChild();
        for (int cell : sites) x.site(cell);
        for (int cell : villages) x.village(cell, 0, 0);
        law(x, NONE, 0, "w:" + minutes);
        return x;
    }

    private static void cover() {
        holds(26, "COVER of VILLAGES (bits) in a WEEK: the fewest SITES such that each of them has one near enough (the WALK to it at most WORTH"
            + " of w, as above, as known NOW);", () -> {
            EveryChild x = land(new int[] {0, 5, 10, 3, 7}, new int[] {0, 6, 10}, 30);
            due(0, x.cover(0, 0));
            due(1 << 0, x.cover(1, 0));
            due(1 << 1, x.cover(2, 0));
            due(1 << 2, x.cover(4, 0));
            due(1 << 3, x.cover(3, 0));
            due(1 << 4, x.cover(6, 0));
            due(1 << 0 | 1 << 4, x.cover(7, 0));
            due(1 << 0 | 1 << 2, x.cover(5, 0));
            // 30 minutes, not 29
            law(x, NONE, 0, "w:29");
            due(1 << 0 | 1 << 1, x.cover(3, 0));
            law(x, NONE, 0, "w:9999");
            due(1, x.cover(7, 0));
        });
        holds(26, "of several sets that with the lower SITE where two first differ;", () -> {
            // 0 and 5 serve as well as 1 and 2: the first of them is lower
            EveryChild x = land(new int[] {0, 1, 9, 30, 31, 10}, new int[] {0, 10}, 10);
            due(1 << 0 | 1 << 2, x.cover(3, 0));
            EveryChild y = land(new int[] {1, 9, 30, 11, 0}, new int[] {0, 10}, 10);
            due(1 << 0 | 1 << 1, y.cover(3, 0));
            // villages between the corners of a square: of {0, 4} and {1, 2} the former, though 4 is above 2
            EveryChild ring = land(new int[] {0, 2, 24, 119, 26}, new int[] {1, 14, 25, 12}, 10);
            due(1 | 1 << 4, ring.cover(15, 0));
            EveryChild turned = land(new int[] {119, 0, 2, 24, 118, 26}, new int[] {1, 14, 25, 12}, 10);
            due(1 << 1 | 1 << 5, turned.cover(15, 0));
            // fewer are better than lower
            EveryChild few = land(new int[] {0, 2, 1}, new int[] {0, 2}, 10);
            due(4, few.cover(3, 0));
            EveryChild sets = land(new int[] {0, 20, 22, 21, 2}, new int[] {0, 2}, 0);
            due(1 | 1 << 4, sets.cover(3, 0));
        });
        holds(26, "COVER: the SITES, as bits.", () -> {
            EveryChild x = land(new int[] {0, 13, 26, 39, 52, 65, 78, 91, 104}, new int[] {0, 13, 26, 39, 52, 65, 78, 91, 104}, 0);
            for (int bits = 0; bits < 512; bits++) due(bits, x.cover(bits, 0));
        });
        holds(26, "NONE: none, no such VILLAGES (0 .. all), WEEK (0 .. 600).", () -> {
            EveryChild x = land(new int[] {0}, new int[] {0, 1, 2}, 10);
            due(NONE, x.cover(7, 0));
            due(NONE, x.cover(4, 0));
            due(1, x.cover(3, 0));
            edges(0, 3, villages -> villages <= 3 && x.cover(villages, 0) >= 0);
            due(NONE, x.cover(8, 0));
            due(NONE, x.cover(-1, 0));
            edges(0, 600, week -> x.cover(3, week) == 1);
            for (int week : new int[] {-1, 601}) due(NONE, x.cover(3, week));
            EveryChild all = new EveryChild();
            all.site(0);
            for (int v = 0; v < 24; v++) all.village(0, 0, 0);
            edges(0, (1 << 24) - 1, villages -> all.cover(villages, 0) >= 0);
        });
    }

    private static void near() {
        holds(26, "as above, as known NOW);", () -> {
            EveryChild x = land(new int[] {4}, new int[] {0}, 40);
            due(1, x.cover(1, 0));
            x.rain(9, 600, true);
            due(1, x.cover(1, 8));
            due(NONE, x.cover(1, 9));
            due(NONE, x.cover(1, 600));
            law(x, NONE, 0, "w:60");
            due(1, x.cover(1, 600));
            // the week's year, though it is far ahead, and the village's shire and letters
            law(x, NONE, 1, "w:l=0&i=0&n=7&y=1&x=0&r=0?39;w:60");
            pass(x, 1);
            x.count(0, 1, 3, 4);
            due(1, x.cover(1, 51));
            due(NONE, x.cover(1, 52));
            due(1, x.cover(1, 104));
            law(x, 1, 1, "w:60");
            due(NONE, x.cover(1, 52));
            law(x, 0, 1, "w:60");
            due(1, x.cover(1, 52));
            // the walk to the site: onto its cell; and there may be none
            x.draw(4, 0, 1, 1, 31, 16);
            due(NONE, x.cover(1, 600));
            due(NONE, land(new int[] {4}, new int[] {0}, 39).cover(1, 0));
            x.draw(0, 0, 1, 1, 99, 99);
            x.draw(4, 0, 1, 1, 30, 15);
            due(1, x.cover(1, 0));
            x.draw(2, 0, 1, 10, 10, 0);
            law(x, 0, 0, "w:9999*9999");
            due(1, x.cover(1, 0));
            due(NONE, x.cover(1, 9));
        });
    }

    private static void beyond() {
        holds(27, "there may be none: BEYOND is then the lowest VILLAGE that no SITE is near enough.", () -> {
            EveryChild x = land(new int[] {5}, new int[] {5, 9, 4, 0}, 10);
            due(1, x.beyond(2, 0));
            due(1, x.beyond(15, 0));
            due(3, x.beyond(13, 0));
            due(3, x.beyond(8, 0));
            due(1, x.beyond(10, 0));
            x.site(9);
            due(3, x.beyond(15, 0));
            EveryChild none = new EveryChild();
            none.village(0, 0, 0);
            none.village(0, 0, 0);
            due(0, none.beyond(3, 0));
            due(1, none.beyond(2, 0));
            due(NONE, none.beyond(0, 0));
        });
        holds(27, "BEYOND.", () -> due(0, land(new int[] {5}, new int[] {0}, 10).beyond(1, 0)));
        holds(27, "NONE: there is a COVER, no such ones.", () -> {
            EveryChild x = land(new int[] {5}, new int[] {5, 9, 4, 0}, 10);
            due(NONE, x.beyond(5, 0));
            due(NONE, x.beyond(0, 0));
            edges(2, 15, villages -> villages != 1 && x.beyond(villages, 0) != NONE);
            due(NONE, x.beyond(16, 0));
            due(NONE, x.beyond(-1, 0));
            edges(0, 600, week -> x.beyond(15, week) == 1);
            for (int week : new int[] {-1, 601}) due(NONE, x.beyond(15, week));
        });
    }

    private static void judge() {
        holds(28, "JUDGED are SITES (bits): -1, if each VILLAGE has one of them near enough, else the lowest that has none.", () -> {
            EveryChild x = land(new int[] {0, 5, 10}, new int[] {0, 4, 10}, 10);
            due(-1, x.judge(7, 7, 0));
            due(2, x.judge(3, 7, 0));
            due(1, x.judge(5, 7, 0));
            due(0, x.judge(6, 7, 0));
            due(0, x.judge(0, 7, 0));
            due(1, x.judge(0, 6, 0));
            due(-1, x.judge(0, 0, 0));
            due(-1, x.judge(1, 1, 0));
            due(-1, x.judge(2, 2, 0));
            due(0, x.judge(2, 3, 0));
        });
        holds(28, "A ROW of SITES judged.", () -> due(0, land(new int[] {5}, new int[] {0}, 10).judge(1, 1, 0)));
        holds(28, "-2: no such ones.", () -> {
            EveryChild x = land(new int[] {0, 5}, new int[] {0, 4, 10}, 10);
            edges(0, 3, sites -> x.judge(sites, 7, 0) != -2);
            edges(0, 7, villages -> x.judge(3, villages, 0) != -2);
            edges(0, 600, week -> x.judge(3, 7, week) != -2);
            for (int sites : new int[] {-1, 4}) due(-2, x.judge(sites, 0, 0));
            for (int villages : new int[] {-1, 8}) due(-2, x.judge(0, villages, 0));
            for (int week : new int[] {-1, 601}) due(-2, x.judge(0, 0, week));
        });
    }

    private static void rows() {
        holds(49, "A ROW of a PLAN: a and b are its eight numbers, four bytes each, the highest first: its number.", () -> {
            for (int year = 0; year < 8; year++) {
                EveryChild x = land(new int[] {0}, new int[] {0}, 0);
                int one = 1 << 24 - 8 * (year % 4);
                due(0, x.row(year < 4 ? one : 0, year < 4 ? 0 : one));
                due(year, x.plan(1, 1, 0));
            }
            EveryChild x = new EveryChild();
            for (int k = 0; k < 6; k++) due(k, x.row(0x09080706, 0x05040302));
            due(6, x.many(15));
        });
        holds(49, "(a ROW: eight numbers 0 .. 9, for YEARS 0 .. 7; 6 ROWS at most):", () -> {
            for (int k = 0; k < 8; k++) {
                int place = k;
                edges(0, 9, n -> {
                    if (n < 0 || n > 255) return false;
                    int shifted = n << 24 - 8 * (place % 4);
                    return new EveryChild().row(place < 4 ? shifted : 0, place < 4 ? 0 : shifted) == 0;
                });
            }
            EveryChild x = new EveryChild();
            for (int k = 0; k < 6; k++) due(k, x.row(0x09090909, 0x09090909));
            due(NONE, x.row(0, 0));
        });
        holds(49, "NONE: one above 9, there are six.", () -> {
            EveryChild x = new EveryChild();
            for (int shift = 0; shift < 32; shift += 8)
                for (int n : new int[] {10, 11, 16, 127, 128, 255}) {
                    due(NONE, x.row(n << shift, 0));
                    due(NONE, x.row(0, n << shift));
                }
            due(NONE, x.row(-1, -1));
            due(0, x.many(15));
            for (int k = 0; k < 5; k++) x.row(0, 0);
            due(5, x.row(0, 0));
            due(NONE, x.row(0, 0));
            due(6, x.many(15));
        });
    }

    private static void plan() {
        holds(50, "PLAN of SITES (bits) for VILLAGES (bits) in a WEEK: each YEAR so many SITES can be built", () -> {
            EveryChild x = land(new int[] {0, 2, 4}, new int[] {0, 2, 4}, 10);
            due(0, x.row(0x01000100, 0x00010000));
            due(0, x.plan(7, 1, 0));
            due(2, x.plan(7, 3, 0));
            due(2, x.plan(7, 5, 0));
            due(5, x.plan(7, 7, 0));
            due(0, x.plan(7, 0, 0));
            due(0, x.plan(0, 0, 0));
        });
        holds(50, "the least YEAR by whose end all these VILLAGES can have one of these SITES near enough (as in COVER) that is built,"
            + " in the worst ROW.", () -> {
            EveryChild x = land(new int[] {0, 2, 4, 3}, new int[] {0, 2, 4}, 10);
            x.row(0x00000100, 0x00000001);
            due(2, x.plan(15, 1, 0));
            // the fourth site serves two of them
            due(2, x.plan(15, 6, 0));
            due(7, x.plan(15, 7, 0));
            due(7, x.plan(7, 6, 0));
            due(NONE, x.plan(7, 7, 0));
            // of other sites than these none is built
            due(NONE, x.plan(1, 2, 0));
            due(NONE, x.plan(2, 1, 0));
            due(NONE, x.plan(14, 1, 0));
            due(NONE, x.plan(5, 6, 0));
            due(2, x.plan(1, 1, 0));
            x.row(0x09000000, 0);
            due(2, x.plan(15, 1, 0));
            due(7, x.plan(15, 7, 0));
            x.row(0, 0x02000000);
            due(4, x.plan(15, 1, 0));
            due(7, x.plan(15, 7, 0));
            x.row(0, 0x00000001);
            due(7, x.plan(15, 1, 0));
            due(NONE, x.plan(15, 7, 0));
            due(0, x.plan(15, 0, 0));
            x.row(0, 0);
            due(NONE, x.plan(15, 1, 0));
            due(0, x.plan(15, 0, 0));
        });
        holds(50, "near enough (as in COVER) that is built,", () -> {
            EveryChild x = land(new int[] {4}, new int[] {0}, 40);
            x.row(0x01000000, 0);
            x.rain(9, 9, true);
            due(0, x.plan(1, 1, 8));
            due(NONE, x.plan(1, 1, 9));
            law(x, NONE, 1, "w:39");
            due(0, x.plan(1, 1, 51));
            due(NONE, x.plan(1, 1, 52));
        });
    }

    private static void planRefused() {
        holds(50, "There may be none.", () -> {
            EveryChild x = land(new int[] {4}, new int[] {0, 4}, 10);
            x.row(0x09090909, 0x09090909);
            due(NONE, x.plan(1, 1, 0));
            due(NONE, x.plan(1, 3, 0));
            due(0, x.plan(1, 2, 0));
        });
        holds(50, "PLAN: the YEAR.", () -> {
            EveryChild x = land(new int[] {0}, new int[] {0}, 0);
            x.row(0x00000001, 0);
            due(3, x.plan(1, 1, 600));
        });
        holds(50, "NONE: none, no ROWS, no such SITES, VILLAGES, WEEK (0 .. 600).", () -> {
            EveryChild x = land(new int[] {0, 1}, new int[] {0, 1}, 10);
            due(NONE, x.plan(1, 1, 0));
            due(NONE, x.plan(0, 0, 0));
            x.row(0x01010101, 0x01010101);
            due(0, x.plan(1, 1, 0));
            edges(1, 3, sites -> sites != 0 && x.plan(sites, 1, 0) == 0);
            edges(0, 3, villages -> x.plan(3, villages, 0) >= 0);
            edges(0, 600, week -> x.plan(3, 3, week) == 0);
            for (int sites : new int[] {-1, 4}) due(NONE, x.plan(sites, 0, 0));
            for (int villages : new int[] {-1, 4}) due(NONE, x.plan(3, villages, 0));
            for (int week : new int[] {-1, 601}) due(NONE, x.plan(3, 3, week));
        });
    }
}
