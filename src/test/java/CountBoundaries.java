/** Promises 38, 39, 44 and 45: recounts, spans, villages that are treated, who stays. */
final class CountBoundaries extends Sentences {
    static void all() {
        recounts();
        span();
        spanRefused();
        treat();
        stay();
        two();
        stayRefused();
    }

    private static EveryChild villages(int many) {
        EveryChild x = new EveryChild();
        for (int v = 0; v < many; v++) x.village(0, 0, 0);
        return x;
    }

    private static void recounts() {
        holds(38, "RECOUNTS (60 at most), drawn: of a VILLAGE for a YEAR: CHILDREN (0 .. 1,998).", () -> {
            edges(0, 0, v -> villages(1).recount(v, 0, 1));
            edges(0, 11, year -> villages(1).recount(0, year, 1));
            edges(0, 1998, children -> villages(1).recount(0, 0, children));
            EveryChild x = villages(1);
            for (int k = 0; k < 60; k++) yes(x.recount(0, 0, k));
            no(x.recount(0, 0, 0));
        });
        holds(38, "A RECOUNT.", () -> {
            EveryChild x = villages(1);
            yes(x.recount(0, 0, 1));
            due(1, x.many(10));
        });
        holds(38, "False: no such ones, out of bounds; there were 60.", () -> {
            EveryChild x = villages(1);
            x.count(0, 0, 10, 0);
            int[][] none = {{-1, 0, 1}, {1, 0, 1}, {24, 0, 1}, {0, -1, 1}, {0, 12, 1}, {0, 0, -1}, {0, 0, 1999}};
            for (int[] a : none) no(x.recount(a[0], a[1], a[2]));
            due(0, x.many(10));
            due(10, x.span(0, 0, 0, 1));
            for (int k = 0; k < 59; k++) yes(x.recount(0, 0, 20));
            yes(x.recount(0, 0, 30));
            no(x.recount(0, 0, 40));
            due(60, x.many(10));
            due(30, x.span(0, 0, 0, 1));
        });
    }

    private static void span() {
        holds(39, "SPAN of a SHIRE in a YEAR as known in q: s is the sum of CHILDREN of its VILLAGES; of its RECOUNTS for that YEAR told up to q"
            + " of VILLAGES with CHILDREN counted above 0 (the last of each VILLAGE): the least and the greatest of 1,000 times the RECOUNT"
            + " by the count, cut; the SPAN is s times these by 1,000, cut (s and s without any).", () -> {
            EveryChild x = villages(3);
            x.village(0, 1, 0);
            x.count(0, 0, 20, 13);
            x.count(3, 0, 500, 0);
            x.recount(3, 0, 700);
            both(x, 0, 0, 0, 33, 33);
            // none is counted in 1
            x.recount(1, 0, 9);
            both(x, 0, 0, 0, 33, 33);
            x.count(1, 0, 0, 0);
            both(x, 0, 0, 0, 33, 33);
            // 30,000 by 33 are 909, 33 times 909 by 1,000 are 29
            x.recount(0, 0, 30);
            both(x, 0, 0, 0, 29, 29);
            pass(x, 1);
            x.count(1, 0, 6, 1);
            // 9,000 by 7 are 1,285; s is 40
            both(x, 0, 0, 1, 36, 51);
            both(x, 0, 0, 0, 29, 29);
            x.recount(1, 0, 0);
            both(x, 0, 0, 1, 0, 36);
            x.recount(1, 0, 7);
            both(x, 0, 0, 1, 36, 40);
            x.recount(1, 0, 14);
            both(x, 0, 0, 1, 36, 80);
            // told up to q, the last of them
            both(x, 0, 0, 0, 29, 29);
            pass(x, 1);
            x.recount(0, 0, 66);
            both(x, 0, 0, 1, 36, 80);
            both(x, 0, 0, 2, 80, 80);
            x.recount(0, 0, 0);
            both(x, 0, 0, 2, 0, 80);
            x.recount(1, 0, 0);
            both(x, 0, 0, 2, 0, 0);
            both(x, 0, 0, 1, 36, 80);
            // of that year alone, though counts go on
            both(x, 0, 1, 1, 40, 40);
            x.recount(2, 1, 5);
            both(x, 0, 1, 1, 40, 40);
            x.recount(0, 1, 66);
            both(x, 0, 1, 1, 40, 40);
            both(x, 0, 1, 2, 80, 80);
            both(x, 0, 0, 1, 36, 80);
            both(x, 1, 0, 1, 700, 700);
            both(x, 2, 0, 1, 0, 0);
        });
        holds(39, "SPAN: 0 from, 1 to.", () -> {
            EveryChild x = villages(24);
            for (int v = 0; v < 24; v++) x.count(v, 0, v == 0 ? 1 : 999, v == 0 ? 0 : 999);
            x.recount(0, 0, 1998);
            x.recount(1, 0, 0);
            int s = 1 + 23 * 1998;
            due(0, x.span(0, 0, 0, 0));
            due(1998L * s, x.span(0, 0, 0, 1));
        });
    }

    private static void both(EveryChild x, int shire, int year, int q, int from, int to) {
        due(from, x.span(shire, year, q, 0));
        due(to, x.span(shire, year, q, 1));
    }

    private static void spanRefused() {
        holds(39, "NONE: no such ones.", () -> {
            EveryChild x = villages(1);
            pass(x, 2);
            edges(0, 3, shire -> x.span(shire, 0, 0, 0) == 0);
            edges(0, 11, year -> x.span(0, year, 0, 0) == 0);
            edges(0, 1, what -> x.span(0, 0, 0, what) == 0);
            for (int shire : new int[] {-1, 4}) due(NONE, x.span(shire, 0, 0, 0));
            for (int year : new int[] {-1, 12}) due(NONE, x.span(0, year, 0, 0));
            for (int what : new int[] {-1, 2}) due(NONE, x.span(0, 0, 0, what));
            past(x, NONE, q -> x.span(0, 0, q, 0));
        });
    }

    private static void treat() {
        holds(44, "A VILLAGE is TREATED from a YEAR (0 .. 11) on.", () -> {
            edges(0, 11, year -> villages(1).treat(0, year));
            edges(0, 0, v -> villages(1).treat(v, 0));
        });
        holds(44, "False: no such one, it is.", () -> {
            EveryChild x = four();
            for (int v : new int[] {-1, 4, 24, MIN, MAX}) no(x.treat(v, 0));
            for (int year : new int[] {-1, 12, MIN, MAX}) no(x.treat(0, year));
            yes(x.treat(0, 3));
            no(x.treat(0, 3));
            no(x.treat(0, 0));
            yes(x.treat(1, 2));
            // the first year stands
            due(UNTOLD, x.stay(0, 2, 0));
            yes(x.stay(0, 3, 0) != UNTOLD);
        });
    }

    /** Four villages with as many girls as boys in year 0; then more or fewer girls in the years to come. */
    private static EveryChild four() {
        EveryChild x = villages(4);
        for (int v = 0; v < 4; v++)
            for (int year = 0; year < 5; year++) x.count(v, year, 10 + year * (v + 1), 10);
        return x;
    }

    private static void stay() {
        holds(45, "STAY: of VILLAGES that are TREATED (told, from a YEAR on) and of others of the SHIRE: as known in q, the mean (cut) of girls in thousandths"
            + " (cut) of CHILDREN in a YEAR less those in the YEAR ahead, over VILLAGES with CHILDREN in both;", () -> {
            int[][] girls = {{30, 35}, {10, 20}, {50, 48}, {7, 4}};
            int[][] boys = {{70, 65}, {20, 21}, {51, 50}, {8, 9}};
            EveryChild x = villages(4);
            for (int v = 0; v < 4; v++) {
                x.count(v, 2, girls[v][0], boys[v][0]);
                x.count(v, 3, girls[v][1], boys[v][1]);
            }
            x.treat(0, 0);
            x.treat(1, 0);
            // 350-300 = 50, 487-333 = 154: 102; 489-495 = -6, 307-466 = -159: -82, for -165 by 2 is cut
            due(102 + 82, x.stay(0, 3, 0));
            // in years without new counts nothing changes
            due(0, x.stay(0, 4, 0));
            // without children in the year ahead
            due(UNTOLD, x.stay(0, 2, 0));
            // two more: with none in the year ahead, with none in the year
            x.village(0, 0, 0);
            x.village(0, 0, 0);
            x.count(4, 3, 900, 1);
            x.count(5, 2, 900, 1);
            x.count(5, 3, 0, 0);
            due(184, x.stay(0, 3, 0));
            x.count(4, 2, 0, 1);
            // 998-0 = 998: 998-6-159 = 833 by 3 is 277
            due(102 - 277, x.stay(0, 3, 0));
            // of other shires nothing is asked
            for (int v = 6; v < 9; v++) {
                x.village(0, 1, 0);
                x.count(v, 2, 1, 0);
                x.count(v, 3, 0, 1);
            }
            due(102 - 277, x.stay(0, 3, 0));
            due(UNTOLD, x.stay(1, 3, 0));
            // of no girls and of girls alone
            x.treat(6, 3);
            x.treat(7, 3);
            x.village(0, 1, 0);
            x.count(9, 2, 0, 1);
            x.count(9, 3, 1, 0);
            due(-1000, x.stay(1, 3, 0));
        });
        holds(45, "DIFFERENCE: of the TREATED ones (from that YEAR on, told up to q) less of the others.", () -> {
            EveryChild x = villages(4);
            for (int v = 0; v < 4; v++) {
                x.count(v, 0, 10, 10);
                x.count(v, 1, v < 2 ? 30 : 10, 10);
                x.count(v, 2, v < 2 ? 30 : 90, 10);
            }
            x.treat(0, 1);
            pass(x, 3);
            x.treat(1, 1);
            due(UNTOLD, x.stay(0, 1, 2));
            due(250, x.stay(0, 1, 3));
            due(-400, x.stay(0, 2, 3));
            EveryChild y = villages(6);
            for (int v = 0; v < 6; v++) {
                y.count(v, 0, 10, 10);
                y.count(v, 1, 10, v < 3 ? 0 : 10);
            }
            y.treat(0, 1);
            y.treat(1, 0);
            y.treat(2, 2);
            // the third is not treated yet: 500 less 500 by 4
            due(375, y.stay(0, 1, 0));
            y.count(2, 2, 10, 90);
            // treated now: -900 by 3, less none
            due(-300, y.stay(0, 2, 0));
        });
    }

    private static void two() {
        holds(45, "Told only with two or more of both.", () -> {
            EveryChild x = four();
            due(UNTOLD, x.stay(0, 1, 0));
            x.treat(0, 0);
            due(UNTOLD, x.stay(0, 1, 0));
            x.treat(1, 0);
            yes(x.stay(0, 1, 0) != UNTOLD);
            x.treat(2, 0);
            due(UNTOLD, x.stay(0, 1, 0));
            x.treat(3, 0);
            due(UNTOLD, x.stay(0, 1, 0));
            x.village(0, 0, 0);
            x.count(4, 0, 1, 1);
            due(UNTOLD, x.stay(0, 1, 0));
            x.village(0, 0, 0);
            due(UNTOLD, x.stay(0, 1, 0));
            x.count(5, 0, 1, 1);
            yes(x.stay(0, 1, 0) != UNTOLD);
        });
    }

    private static void stayRefused() {
        holds(45, "DIFFERENCE of a SHIRE in a YEAR (1 .. 11) as known in q.", () -> {
            EveryChild x = four();
            x.treat(0, 0);
            x.treat(1, 0);
            edges(1, 11, year -> x.stay(0, year, 0) != UNTOLD);
        });
        holds(45, "-2,000,000: not told, no such ones.", () -> {
            EveryChild x = four();
            pass(x, 2);
            due(UNTOLD, x.stay(0, 1, 2));
            x.treat(0, 0);
            x.treat(1, 0);
            yes(x.stay(0, 1, 2) != UNTOLD);
            due(UNTOLD, x.stay(0, 1, 1));
            for (int shire : new int[] {-1, 1, 2, 3, 4, MIN, MAX}) due(UNTOLD, x.stay(shire, 1, 2));
            for (int year : new int[] {-1, 0, 12, MIN, MAX}) due(UNTOLD, x.stay(0, year, 2));
            for (int q : new int[] {-1, 3, MIN, MAX}) due(UNTOLD, x.stay(0, 1, q));
        });
    }
}
