/** Promises 46 to 48 and 51: lenders, bills, what can be paid; how many there are. */
final class PurseBoundaries extends Sentences {
    static void all() {
        lenders();
        bills();
        mayPay();
        paid();
        paidRefused();
        many();
    }

    private static void lenders() {
        holds(46, "LENDERS (4 at most): coin (0 .. 1,000,000).", () -> {
            edges(0, 1000000, coin -> new EveryChild().lender(coin) == 0);
            EveryChild x = new EveryChild();
            for (int k = 0; k < 4; k++) due(k, x.lender(1000000));
            due(NONE, x.lender(1));
            for (int k = 0; k < 40; k++) x.bill(0, 100000);
            due(4000000, x.paid(0, 0));
            EveryChild poor = new EveryChild();
            poor.lender(0);
            poor.bill(0, 1);
            due(0, poor.paid(0, 0));
            due(0, poor.paid(0, 1));
        });
        holds(46, "A LENDER: its number.", () -> {
            EveryChild x = new EveryChild();
            for (int k = 0; k < 4; k++) due(k, x.lender(k));
            due(4, x.many(13));
        });
        holds(46, "NONE: coin, there are four.", () -> {
            EveryChild x = new EveryChild();
            for (int coin : new int[] {-1, 1000001, MIN, MAX}) due(NONE, x.lender(coin));
            due(0, x.many(13));
            for (int k = 0; k < 3; k++) x.lender(0);
            due(3, x.lender(7));
            due(NONE, x.lender(7));
            due(4, x.many(13));
            x.bill(0, 100);
            due(7, x.paid(0, 0));
        });
    }

    private static void bills() {
        holds(47, "BILLS (40 at most): a sort (0 .. 7), coin (1 .. 100,000).", () -> {
            edges(0, 7, sort -> new EveryChild().bill(sort, 1));
            edges(1, 100000, coin -> new EveryChild().bill(0, coin));
            EveryChild x = new EveryChild();
            for (int k = 0; k < 40; k++) yes(x.bill(k % 8, 100000));
            no(x.bill(0, 1));
            due(4000000, x.paid(0, 1));
        });
        holds(47, "A BILL.", () -> {
            EveryChild x = new EveryChild();
            yes(x.bill(3, 5));
            yes(x.bill(3, 6));
            due(2, x.many(14));
            due(11, x.paid(0, 1));
        });
        holds(47, "False: out of bounds; there were 40.", () -> {
            EveryChild x = new EveryChild();
            for (int sort : new int[] {-1, 8, MIN, MAX}) no(x.bill(sort, 1));
            for (int coin : new int[] {-1, 0, 100001, MIN, MAX}) no(x.bill(0, coin));
            due(0, x.many(14));
            due(0, x.paid(0, 1));
            for (int k = 0; k < 39; k++) x.bill(0, 1);
            yes(x.bill(7, 2));
            no(x.bill(7, 2));
            due(40, x.many(14));
            due(41, x.paid(0, 1));
        });
    }

    private static void mayPay() {
        holds(48, "A LENDER may pay for a sort in a YEAR, if WORTH of c (SHIRE 0) is unlike 0.", () -> {
            EveryChild x = new EveryChild();
            for (int k = 0; k < 4; k++) x.lender(1 << k);
            for (int sort = 0; sort < 8; sort++) x.bill(sort, 1000 + sort);
            due(15, x.paid(0, 0));
            for (int k = 0; k < 4; k++)
                for (int sort = 0; sort < 8; sort += 7) {
                    EveryChild y = new EveryChild();
                    for (int j = 0; j < 4; j++) y.lender(1 << j);
                    for (int j = 0; j < 8; j++) y.bill(j, 1000 + j);
                    law(y, 0, 3, "c:x=" + sort + "&n=" + k + "&i=0?0-1;c:0");
                    due(1 << k, y.paid(3, 0));
                    due(8028 - 1000 - sort, y.paid(3, 1));
                    due(15, y.paid(2, 0));
                }
            law(x, 1, 0, "c:0");
            due(15, x.paid(0, 0));
            law(x, NONE, 0, "c:0");
            due(0, x.paid(0, 0));
            due(8028, x.paid(0, 1));
            law(x, 0, 1, "c:1");
            due(15, x.paid(1, 0));
            due(0, x.paid(0, 0));
        });
    }

    private static void paid() {
        holds(48, "PAID: the most that can be paid of all BILLS, parted as one likes.", () -> {
            EveryChild x = new EveryChild();
            x.lender(100);
            x.lender(50);
            x.bill(0, 80);
            x.bill(1, 90);
            due(150, x.paid(0, 0));
            law(x, 0, 0, "c:x=0|n=1?1;c:0");
            // the first for sort 0 alone, the second for the other
            due(130, x.paid(0, 0));
            x.bill(0, 20);
            due(150, x.paid(0, 0));
            x.bill(0, 20);
            due(150, x.paid(0, 0));
            law(x, 0, 0, "c:x=0&n=1|x=1?1;c:0");
            due(140, x.paid(0, 0));
            law(x, 0, 0, "c:x=0&n=1|x=1&n=1?1;c:0");
            due(50, x.paid(0, 0));
            // a lender's coin is spread over several sorts, a bill is paid by several lenders
            EveryChild y = new EveryChild();
            for (int coin : new int[] {40, 30, 20, 10}) y.lender(coin);
            for (int sort = 0; sort < 4; sort++) y.bill(sort, 15 + 10 * sort);
            due(100, y.paid(0, 0));
            law(y, 0, 0, "c:x=n?1;c:0");
            due(15 + 25 + 20 + 10, y.paid(0, 0));
            law(y, 0, 0, "c:x=n|x=n+1?1;c:0");
            due(15 + 25 + 30 + 5 + 15 + 10, y.paid(0, 0));
            law(y, 0, 0, "c:x=n|x+1=n?1;c:0");
            due(15 + 25 + 20 + 10, y.paid(0, 0));
            law(y, 0, 0, "c:x=0|n=3?1;c:0");
            due(15 + 10, y.paid(0, 0));
            law(y, 0, 0, "c:0");
            due(0, y.paid(0, 0));
        });
        holds(48, "NOBODY: the sum of BILLS of sorts that no LENDER may pay for.", () -> {
            EveryChild x = new EveryChild();
            x.bill(0, 80);
            x.bill(7, 9);
            due(89, x.paid(0, 1));
            x.lender(0);
            due(0, x.paid(0, 1));
            law(x, 0, 0, "c:x=7?0");
            due(9, x.paid(0, 1));
            x.bill(7, 1);
            due(10, x.paid(0, 1));
            law(x, 0, 0, "c:n=1?1;c:0");
            due(90, x.paid(0, 1));
            x.lender(5);
            due(0, x.paid(0, 1));
        });
    }

    private static void paidRefused() {
        holds(48, "PAID (0), NOBODY (1), in a YEAR as known NOW.", () -> {
            EveryChild x = new EveryChild();
            x.lender(10);
            x.bill(0, 30);
            x.bill(1, 7);
            law(x, 0, 4, "c:x=0?1;c:0");
            due(10, x.paid(4, 0));
            due(7, x.paid(4, 1));
            due(0, x.paid(3, 1));
            pass(x, 1);
            due(7, x.paid(11, 1));
            law(x, 0, 4, "c:0");
            due(37, x.paid(4, 1));
            due(0, x.paid(4, 0));
        });
        holds(48, "NONE: no such YEAR, what.", () -> {
            EveryChild x = new EveryChild();
            edges(0, 11, year -> x.paid(year, 0) == 0);
            edges(0, 1, what -> x.paid(0, what) == 0);
            for (int year : new int[] {-1, 12}) due(NONE, x.paid(year, 1));
            for (int what : new int[] {-1, 2}) due(NONE, x.paid(11, what));
        });
    }

    private static void many() {
        holds(51, "0 NOW, 1 VILLAGES, 2 SCHOOLS, 3 those BUILT, 4 LAWS, 5 COUNTS, 6 SITES, 7 MAKERS, 8 LORRIES, 9 TEACHERS, 10 RECOUNTS, 11 ROOFS laid,"
            + " 12 WINDS, 13 LENDERS, 14 BILLS, 15 ROWS, 16 bytes of the TAPE, 17 PARTS in the yard.", () -> {
            EveryChild x = new EveryChild();
            int[] due = new int[18];
            counts(x, due);
            x.village(0, 0, 0);
            due[1]++;
            for (int k = 0; k < 3; k++) x.school(0, 0, 1, 1, 1);
            due[2] = 3;
            law(x, 0, 0, "w:1");
            due[4] = 1;
            counts(x, due);
            for (int k = 0; k < 4; k++) x.count(0, 0, 1, 1);
            due[5] = 4;
            for (int k = 0; k < 5; k++) x.site(0);
            due[6] = 5;
            for (int kind = 0; kind < 6; kind++) x.maker(kind % 5, kind < 5 ? 6 : 1, 1, 1);
            due[7] = 6;
            for (int k = 0; k < 7; k++) x.lorry(11);
            due[8] = 7;
            for (int k = 0; k < 8; k++) x.teacher(0, 0, 1, 1);
            due[9] = 8;
            for (int k = 0; k < 9; k++) x.recount(0, 0, 1);
            due[10] = 9;
            counts(x, due);
            for (int k = 0; k < 10; k++) x.roof(0, 0, 0);
            due[11] = 10;
            for (int k = 0; k < 11; k++) x.wind(k % 2, 300);
            due[12] = 11;
            for (int k = 0; k < 2; k++) x.lender(1);
            due[13] = 2;
            for (int k = 0; k < 12; k++) x.bill(0, 1);
            due[14] = 12;
            for (int k = 0; k < 6; k++) x.row(0, 0);
            due[15] = 6;
            x.feed('a', 'b', 0, 0, 0);
            due[16] = 2;
            counts(x, due);
            pass(x, 1);
            // of 31 parts the first school takes 11; of what lies there then the second 1 2 2 1 3, the third 1 2 0 1 0
            due[0] = 1;
            due[3] = 1;
            due[17] = 31 - 11 - 9 - 4;
            counts(x, due);
        });
        holds(51, "NONE for others.", () -> {
            EveryChild x = new EveryChild();
            edges(0, 17, what -> x.many(what) == 0);
            for (int what : new int[] {-1, 18, MIN, MAX}) due(NONE, x.many(what));
        });
    }

    private static void counts(EveryChild x, int[] due) {
        for (int what = 0; what < due.length; what++) due(due[what], x.many(what));
    }
}
