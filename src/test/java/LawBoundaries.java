/** Promises 17 to 19: what laws are worth, which is in force, which quarrel. */
final class LawBoundaries extends Sentences {
    static void all() {
        signs();
        clauses();
        inForce();
        asked();
        letters();
        why();
        quarrel();
    }

    private static int worth(String sum, int n, int l, int x, int r) {
        EveryChild land = new EveryChild();
        law(land, 2, 3, "w:" + sum);
        return land.worth(2, 4, 0, 'w', n, l, x, r);
    }

    private static int worth(String sum) {
        return worth(sum, 0, 0, 0, 0);
    }

    private static boolean is(String condition) {
        return worth(condition + "?1;w:0", 5, 6, 7, 8) == 1;
    }

    private static void signs() {
        holds(17, "Behind each sign within -1,000,000 .. 1,000,000; / cuts towards 0, by 0 gives 0.", () -> {
            due(1000000, worth("1000*1000"));
            due(1000000, worth("1000*1001"));
            due(999999, worth("1000*1000-1"));
            due(999999, worth("1001*1001-1"));
            due(1000000, worth("999*1001+1"));
            due(1000000, worth("999*1001+2"));
            due(1000000, worth("9999*9999"));
            due(-1000000, worth("0-1000*1000"));
            due(-1000000, worth("0-1000*1000-1"));
            due(-999999, worth("0-1001*1000-1+1"));
            due(-1000000, worth("[0-1000]*1000"));
            due(-1000000, worth("[0-1000]*1001"));
            due(-999999, worth("[0-999]*1001"));
            due(0, worth("9999*9999-9999*9999"));
            due(1, worth("9999*9999/9999/100"));
            due(1000000, worth("n*n", MAX, 0, 0, 0));
            due(1000000, worth("n*n", MIN, 0, 0, 0));
            due(-1000000, worth("n*l", MIN, MAX, 0, 0));
            due(1000000, worth("n+n", MAX, 0, 0, 0));
            due(-1000000, worth("n+n", MIN, 0, 0, 0));
            due(-1000000, worth("n-l", MIN, MAX, 0, 0));
            due(1000000, worth("n/[0-1]", MIN, 0, 0, 0));
            due(3, worth("7/2"));
            due(-3, worth("[0-7]/2"));
            due(-3, worth("7/[0-2]"));
            due(3, worth("[0-7]/[0-2]"));
            due(0, worth("1/2"));
            due(0, worth("[0-1]/2"));
            due(0, worth("7/0"));
            due(0, worth("[0-7]/[1-1]"));
            due(0, worth("0/0"));
            due(5, worth("7/0+5"));
        });
        holds(17, "SUM: TERMS with + or - between; TERM: ATOMS with * or / between; ATOM: a number (1 to 4 digits),", () -> {
            due(14, worth("2+3*4"));
            due(20, worth("[2+3]*4"));
            due(5, worth("10-3-2"));
            due(9, worth("10-[3-2]"));
            due(2, worth("12/3/2"));
            due(8, worth("12/[3/2]-4"));
            due(6, worth("7/2*2"));
            due(7, worth("1+2*6/2"));
            due(0, worth("0"));
            due(0, worth("0000"));
            due(1, worth("0001"));
            due(9999, worth("9999"));
            due(12, worth(" 1 + [ 2 + 9 ] "));
        });
        holds(17, "CONDITION: PARTS with | between; PART: UNITS with & between; UNIT: ! UNIT, ( CONDITION ), or SUM, one of = < >, SUM.", () -> {
            String[] so = {"n=5", "n<6", "n>4", "n=5|n=6", "n=6|n=5", "n=5&l=6", "!n=6", "!n<5", "!n>5", "!!n=5", "(n=5)", "!(n=6)",
                "n=5|n=6&n=7", "n=7&n=6|n=5", "!n=5|n=5", "!(n=5&n=6)", "(n=6|n=5)&x=7", "n=6|n=6|n=5", "n=5&l=6&x=7&r=8", "n+1=l", "2*n=2+r",
                "!n=6&!l=5", "!(n=6|l=5)"};
            for (String condition : so) yes(is(condition));
            String[] not = {"n=4", "n=6", "n<5", "n<4", "n>5", "n>6", "n=4|n=6", "n=5&n=6", "n=6&n=5", "!n=5", "!n<6", "!n>4", "!!n=6", "(n=6)",
                "!(n=5)", "(n=5|n=6)&n=7", "!n=5&n=5", "!(n=5|n=6)", "n=5&l=6&x=7&r=9", "n=6|n=6|n=6"};
            for (String condition : not) no(is(condition));
        });
    }

    private static void clauses() {
        holds(17, "WORTH of a LABEL: the SUM of its first CLAUSE whose CONDITION holds (or has none).", () -> {
            due(3, worth("n=1?2;h:9;w:n=5?3;w:4", 5, 0, 0, 0));
            due(2, worth("n=1?2;h:9;w:n=5?3;w:4", 1, 0, 0, 0));
            due(4, worth("n=1?2;h:9;w:n=5?3;w:4", 2, 0, 0, 0));
            due(7, worth("7;w:n=5?3;w:4", 5, 0, 0, 0));
            due(60, worth("n=1?2;w:n=5?3", 2, 0, 0, 0));
            due(60, worth("n=1?2;h:9", 2, 0, 0, 0));
            EveryChild x = new EveryChild();
            law(x, 0, 0, "w:1;h:2;s:3;t:4;v:5;c:6;f:7");
            for (int k = 0; k < 7; k++) due(k + 1, x.worth(0, 0, 0, LABELS.charAt(k), 0, 0, 0, 0));
            law(x, 0, 0, "w:1;".repeat(39) + "h:42");
            due(42, x.worth(0, 0, 0, 'h', 0, 0, 0, 0));
        });
        holds(17, "WORTH for a SHIRE: its WORTH; without one w 60, h 40, s 1, t 1, v 0, c 1, f 0.", () -> {
            int[] usual = {60, 40, 1, 1, 0, 1, 0};
            EveryChild x = new EveryChild();
            law(x, 0, 0, "w:n=9?1;h:n=9?1;s:n=9?9;t:n=9?9;v:n=9?9;c:n=9?9;f:n=9?9");
            for (int shire = 0; shire < 4; shire++)
                for (int k = 0; k < 7; k++) due(usual[k], x.worth(shire, 11, 0, LABELS.charAt(k), 1, 1, 1, 1));
            for (int k = 0; k < 7; k++) due(k < 2 ? 1 : 9, x.worth(0, 0, 0, LABELS.charAt(k), 9, 0, 0, 0));
        });
    }

    private static void inForce() {
        holds(17, "IN FORCE for a SHIRE in a YEAR as known in q, for a LABEL: of LAWS of it or of the LAND, told up to q, from YEARS up to it,"
            + " that have a CLAUSE of that LABEL that holds (or has no CONDITION), the one from the greatest YEAR, of one YEAR the one"
            + " told last.", () -> {
            EveryChild x = new EveryChild();
            pass(x, 1);
            law(x, NONE, 2, "w:10;h:11");
            law(x, 1, 2, "w:20");
            law(x, 1, 1, "w:30;h:31");
            pass(x, 1);
            law(x, NONE, 5, "w:n=9?40");
            law(x, 0, 1, "w:50");
            law(x, NONE, 2, "f:60");
            int[][] asked = {
                // shire, year, q, n, worth
                {1, 0, 2, 0, 60}, {1, 1, 2, 0, 30}, {1, 2, 2, 0, 20}, {1, 3, 2, 0, 20}, {0, 2, 2, 0, 10}, {0, 1, 2, 0, 50}, {0, 1, 1, 0, 60},
                {1, 5, 2, 9, 40}, {1, 5, 2, 8, 20}, {1, 5, 1, 9, 20}, {1, 4, 2, 9, 20}, {3, 11, 2, 9, 40}, {3, 4, 2, 9, 10}, {3, 2, 1, 0, 10},
                {3, 2, 0, 0, 60}, {3, 1, 2, 0, 60}, {2, 11, 2, 0, 10}};
            for (int[] a : asked) due(a[4], x.worth(a[0], a[1], a[2], 'w', a[3], 0, 0, 0));
            due(11, x.worth(1, 2, 2, 'h', 0, 0, 0, 0));
            due(31, x.worth(1, 1, 2, 'h', 0, 0, 0, 0));
            // of one year the one told last, be it the land's or the shire's
            law(x, NONE, 2, "w:70");
            due(70, x.worth(1, 2, 2, 'w', 0, 0, 0, 0));
            due(20, x.worth(1, 2, 1, 'w', 0, 0, 0, 0));
            law(x, 1, 2, "w:80");
            due(80, x.worth(1, 2, 2, 'w', 0, 0, 0, 0));
            law(x, 1, 0, "w:90");
            due(80, x.worth(1, 2, 2, 'w', 0, 0, 0, 0));
            due(90, x.worth(1, 0, 2, 'w', 0, 0, 0, 0));
            law(x, 1, 11, "w:91");
            due(91, x.worth(1, 11, 2, 'w', 0, 0, 0, 0));
            due(80, x.worth(1, 10, 2, 'w', 0, 0, 0, 0));
        });
    }

    private static void asked() {
        holds(17, "WORTH of a LABEL (its byte) for a SHIRE in a YEAR as known in q, with letters n l x r (as told here, of whatever LABEL).", () -> {
            for (char label : LABELS.toCharArray()) {
                EveryChild x = new EveryChild();
                law(x, NONE, 0, label + ":[[[[y*10+i]*10+n]*10+l]*10+x]*10+r");
                due(425678, x.worth(2, 4, 0, label, 5, 6, 7, 8));
                law(x, NONE, 0, label + ":n");
                due(MAX, x.worth(2, 4, 0, label, MAX, 6, 7, 8));
                due(MIN, x.worth(2, 4, 0, label, MIN, 6, 7, 8));
                due(0, x.worth(2, 4, 0, label, 0, 6, 7, 8));
            }
        });
        holds(17, "-2,000,000: no such ones.", () -> {
            EveryChild x = new EveryChild();
            pass(x, 3);
            edges(0, 3, shire -> x.worth(shire, 0, 0, 'w', 0, 0, 0, 0) == 60);
            edges(0, 11, year -> x.worth(0, year, 0, 'w', 0, 0, 0, 0) == 60);
            edges(0, 3, q -> x.worth(0, 0, q, 'w', 0, 0, 0, 0) == 60);
            for (int shire : new int[] {-1, 4, MIN, MAX}) due(UNTOLD, x.worth(shire, 0, 0, 'w', 0, 0, 0, 0));
            for (int year : new int[] {-1, 12, MIN, MAX}) due(UNTOLD, x.worth(0, year, 0, 'w', 0, 0, 0, 0));
            for (int q : new int[] {-1, 4, MIN, MAX}) due(UNTOLD, x.worth(0, 0, q, 'w', 0, 0, 0, 0));
            for (int label = -300; label < 600; label++)
                due(label >= 0 && label < 256 && LABELS.indexOf(label) >= 0 ? 1 : 0, x.worth(0, 0, 0, label, 0, 0, 0, 0) == UNTOLD ? 0 : 1);
        });
    }

    /** Which of the letters n l x r y i are as told; a law of a label holds only if they are. */
    private static String only(char label, String letters, int due) {
        StringBuilder text = new StringBuilder();
        text.append(label).append(':');
        for (char letter : "yinlxr".toCharArray())
            if (letters.indexOf(letter) < 0) text.append(letter).append("=0&");
        return text.append("1=1?").append(due).toString();
    }

    private static void letters() {
        holds(17, "Letters: y the YEAR, i the SHIRE; for h, s, f nothing more; w, v: n CHILDREN of the VILLAGE (counted for that YEAR),"
            + " l its TONGUE; t: x YEARS since the TEACHER was trained, r its RANK, l the TONGUE taught; c: x the sort, n the LENDER."
            + " (Others 0.)", () -> {
            EveryChild x = supplied();
            x.village(0, 2, 3);
            x.village(0, 2, 3);
            x.count(0, 0, 4, 5);
            x.count(0, 1, 6, 7);
            x.school(6, 1, 1, 3, 3);
            x.teacher(0, 4, 2, 12);
            pass(x, 60);
            // what was asked ahead leaves no letters behind
            x.worth(3, 3, 0, 'w', 1, 2, 3, 4);
            law(x, NONE, 0, only('h', "yi", 10) + ";h:0");
            law(x, NONE, 0, only('s', "yi", 2) + ";s:0");
            due(20, x.places(0, 60, 60));
            law(x, NONE, 0, "h:y=1&i=1?30;h:y=0&i=1?20");
            due(60, x.places(0, 60, 60));
            due(40, x.places(0, 51, 60));
            law(x, NONE, 0, "s:y=1&i=1?3;s:y=0&i=1?2");
            due(90, x.places(0, 60, 60));
            due(40, x.places(0, 51, 60));
            law(x, NONE, 0, only('f', "yi", 1));
            due(0, x.reach(0, 0, 60, 60));
            law(x, NONE, 0, "f:y=1&i=1?0;f:1");
            due(1, x.reach(0, 0, 60, 60));
            due(0, x.reach(0, 0, 51, 60));
            law(x, NONE, 0, "w:x=0&r=0?59");
            due(0, x.reach(0, 0, 60, 60));
            law(x, NONE, 0, "w:n=13&l=3&y=1&i=2?60;w:59");
            due(1, x.reach(0, 0, 60, 60));
            due(0, x.reach(1, 0, 60, 60));
            law(x, NONE, 0, "f:0;w:n=9&l=3&y=0&i=2?60;w:59");
            due(1, x.reach(0, 0, 51, 60));
            due(0, x.reach(0, 0, 60, 60));
            law(x, NONE, 0, only('t', "yilxr", 0));
            due(NONE, x.sent(0, 60, 60));
            law(x, NONE, 0, "t:x=1&r=4&l=1&y=1&i=1?1;t:0");
            due(0, x.sent(0, 60, 60));
        });
        holds(17, "c: x the sort, n the LENDER. (Others 0.)", () -> {
            EveryChild x = new EveryChild();
            x.lender(100);
            x.lender(100);
            x.bill(7, 30);
            x.worth(3, 3, 0, 'w', 1, 2, 3, 4);
            law(x, NONE, 0, "c:x=7&n=1&y=5&i=0&l=0&r=0?0-1;c:0");
            due(30, x.paid(5, 0));
            due(0, x.paid(5, 1));
            due(0, x.paid(4, 0));
            due(30, x.paid(4, 1));
        });
        holds(17, "w, v: n CHILDREN of the VILLAGE (counted for that YEAR), l its TONGUE;", () -> {
            EveryChild x = supplied();
            x.village(0, 2, 3);
            x.count(0, 0, 4, 5);
            x.count(0, 1, 6, 7);
            x.school(0, 1, 1, 1, 1);
            x.promise(0, 0);
            law(x, NONE, 0, "v:n=9&l=3&y=0&i=2&x=0&r=0?9;v:n=13&l=3&y=1&i=2&x=0&r=0?13;v:99");
            pass(x, 1);
            x.give(0, 0, 8);
            due(5, x.lack(0));
            x.give(0, 0, 1);
            due(NONE, x.lack(0));
            law(x, NONE, 0, "v:99");
            pass(x, 51);
            law(x, NONE, 0, "v:n=9&l=3&y=0&i=2&x=0&r=0?9;v:n=13&l=3&y=1&i=2&x=0&r=0?13;v:99");
            due(5, x.lack(0));
            x.give(0, 0, 4);
            due(NONE, x.lack(0));
        });
    }

    private static void why() {
        holds(18, "WHY: the LAW of that.", () -> {
            EveryChild x = new EveryChild();
            law(x, NONE, 2, "w:10;h:11");
            law(x, 1, 2, "w:20");
            law(x, 1, 1, "w:30;h:31");
            pass(x, 1);
            law(x, NONE, 5, "w:n=9&l=8&x=7&r=6?40");
            law(x, 0, 1, "w:60");
            int[][] asked = {{1, 0, 1, 0, NONE}, {1, 1, 1, 0, 2}, {1, 2, 1, 0, 1}, {0, 2, 1, 0, 0}, {0, 1, 1, 0, 4}, {0, 1, 0, 0, NONE},
                {1, 5, 1, 9, 3}, {1, 5, 1, 8, 1}, {1, 5, 0, 9, 1}, {3, 11, 1, 9, 3}, {3, 4, 1, 9, 0}};
            for (int[] a : asked) due(a[4], x.why(a[0], a[1], a[2], 'w', a[3], 8, 7, 6));
            due(0, x.why(1, 2, 1, 'h', 0, 0, 0, 0));
        });
        holds(18, "WHY is that LAW.", () -> {
            EveryChild x = new EveryChild();
            law(x, 0, 0, "w:60");
            due(0, x.why(0, 0, 0, 'w', 0, 0, 0, 0));
            due(NONE, x.why(1, 0, 0, 'w', 0, 0, 0, 0));
        });
        holds(18, "NONE: none, no such ones.", () -> {
            EveryChild x = new EveryChild();
            pass(x, 3);
            for (char label : LABELS.toCharArray()) due(NONE, x.why(0, 0, 3, label, 0, 0, 0, 0));
            law(x, NONE, 0, "w:1;h:1;s:1;t:1;v:1;c:1;f:1");
            for (char label : LABELS.toCharArray()) due(NONE, x.why(0, 0, 2, label, 0, 0, 0, 0));
            edges(0, 3, shire -> x.why(shire, 0, 3, 'w', 0, 0, 0, 0) == 0);
            edges(0, 11, year -> x.why(0, year, 3, 'w', 0, 0, 0, 0) == 0);
            edges(3, 3, q -> x.why(0, 0, q, 'w', 0, 0, 0, 0) == 0);
            for (int shire : new int[] {-1, 4}) due(NONE, x.why(shire, 0, 3, 'w', 0, 0, 0, 0));
            for (int year : new int[] {-1, 12}) due(NONE, x.why(0, year, 3, 'w', 0, 0, 0, 0));
            for (int q : new int[] {-1, 4}) due(NONE, x.why(0, 0, q, 'w', 0, 0, 0, 0));
            for (int label = -300; label < 600; label++)
                due(label >= 0 && label < 256 && LABELS.indexOf(label) >= 0 ? 0 : NONE, x.why(0, 0, 3, label, 0, 0, 0, 0));
        });
    }

    private static void quarrel() {
        holds(19, "QUARREL: the lowest LABEL (as above, w first) for which the LAWS of the LAND alone and those of the SHIRE alone are"
            + " IN FORCE with unlike WORTHS (letters all 0 but y, i).", () -> {
            for (int k = 0; k < 7; k++) {
                EveryChild x = new EveryChild();
                String from = LABELS.substring(k);
                for (int j = 0; j < from.length(); j++) {
                    law(x, NONE, 0, from.charAt(j) + ":1");
                    law(x, 0, 0, from.charAt(j) + ":2");
                }
                due(LABELS.charAt(k), x.quarrel(0, 0, 0));
                due(NONE, x.quarrel(1, 0, 0));
            }
            EveryChild x = new EveryChild();
            x.worth(0, 0, 0, 'w', 1, 2, 3, 4);
            law(x, NONE, 0, "h:20;s:5;w:n=0&l=0&x=0&r=0?7");
            due(NONE, x.quarrel(0, 0, 0));
            law(x, 0, 1, "h:20;s:5;w:7");
            due(NONE, x.quarrel(0, 1, 0));
            law(x, 0, 2, "s:6;t:7;f:0");
            due('s', x.quarrel(0, 2, 0));
            due(NONE, x.quarrel(0, 1, 0));
            law(x, 0, 3, "w:n=0&l=0&x=0&r=0&y>2&i=0?8");
            due('w', x.quarrel(0, 3, 0));
            due('s', x.quarrel(0, 2, 0));
            pass(x, 1);
            law(x, NONE, 4, "w:y+4;s:i+6");
            due(NONE, x.quarrel(0, 4, 1));
            due('w', x.quarrel(0, 4, 0));
            due('w', x.quarrel(0, 5, 1));
            // without a law of its own, unlike what holds without any, there is no quarrel
            EveryChild y = new EveryChild();
            law(y, NONE, 0, "w:1;f:9");
            due(NONE, y.quarrel(0, 0, 0));
            law(y, 1, 0, "h:1;f:n=1?3");
            due(NONE, y.quarrel(1, 0, 0));
            law(y, 1, 0, "f:y*100+i");
            due('f', y.quarrel(1, 0, 0));
        });
        holds(19, "QUARREL: the LABEL (its byte).", () -> {
            EveryChild x = new EveryChild();
            law(x, NONE, 0, "w:1");
            law(x, 3, 0, "w:2");
            due(119, x.quarrel(3, 0, 0));
        });
        holds(19, "NONE: none, no such ones.", () -> {
            EveryChild x = new EveryChild();
            pass(x, 2);
            due(NONE, x.quarrel(0, 0, 2));
            law(x, NONE, 0, "c:1");
            due(NONE, x.quarrel(0, 0, 2));
            for (int shire = 0; shire < 4; shire++) law(x, shire, 0, "c:2");
            edges(0, 3, shire -> x.quarrel(shire, 0, 2) == 'c');
            edges(0, 11, year -> x.quarrel(0, year, 2) == 'c');
            edges(2, 2, q -> x.quarrel(0, 0, q) == 'c');
            for (int shire : new int[] {-1, 4}) due(NONE, x.quarrel(shire, 0, 2));
            for (int year : new int[] {-1, 12}) due(NONE, x.quarrel(0, year, 2));
            for (int q : new int[] {-1, 3}) due(NONE, x.quarrel(0, 0, q));
        });
    }
}
