/** Promises 13 to 16: the tape, its fault, laws. */
final class TextBoundaries extends Sentences {
    static void all() {
        feed();
        end();
        clauses();
        conditions();
        sums();
        blanks();
        depths();
        faults();
        law();
    }

    private static void feed() {
        holds(13, "Twenty bytes more come to the TAPE (of each number the highest first; bytes of 0 are left out): how many it has.", () -> {
            EveryChild x = new EveryChild();
            due(0, x.feed(0, 0, 0, 0, 0));
            due(20, x.feed('w' << 24 | ':' << 16 | '1' << 8 | '2', ';' << 24 | 'h' << 16 | ':' << 8 | '3',
                '4' << 24 | ';' << 16 | 's' << 8 | ':', '2' << 24 | ';' << 16 | 'f' << 8 | ':', '1' << 24 | '2' << 16 | '+' << 8 | '3'));
            due(0, x.law(0, 0));
            due(12, x.worth(0, 0, 0, 'w', 0, 0, 0, 0));
            due(34, x.worth(0, 0, 0, 'h', 0, 0, 0, 0));
            due(2, x.worth(0, 0, 0, 's', 0, 0, 0, 0));
            due(15, x.worth(0, 0, 0, 'f', 0, 0, 0, 0));
            // a byte in each of the twenty by itself
            for (int k = 0; k < 20; k++) {
                EveryChild y = new EveryChild();
                int[] n = new int[5];
                n[k / 4] = 'w' << 24 - 8 * (k % 4);
                due(1, y.feed(n[0], n[1], n[2], n[3], n[4]));
                due(2, y.feed(0, 0, ':', 0, 0));
                due(3, y.feed(0, '7' << 16, 0, 0, 0));
                due(NONE, y.fault());
                due(5, y.feed('0' << 24 | '1', 0, 0, 0, 0));
                due(0, y.law(0, 0));
                due(701, y.worth(0, 0, 0, 'w', 0, 0, 0, 0));
            }
            // bytes up to 255 are bytes, though the number is below 0
            due(20, new EveryChild().feed(-1, -1, -1, -1, -1));
            due(1, new EveryChild().feed(0x80000000, 0, 0, 0, 0));
            due(4, new EveryChild().feed(0, 0, 0, 0, 0x01010101));
        });
        holds(13, "NONE: more than 160.", () -> {
            EveryChild x = new EveryChild();
            for (int k = 1; k <= 8; k++) due(20 * k, x.feed(-1, -1, -1, -1, -1));
            due(NONE, x.feed(1, 0, 0, 0, 0));
            due(NONE, x.feed(-1, -1, -1, -1, -1));
            due(160, x.feed(0, 0, 0, 0, 0));
            due(160, x.many(16));
            x.end(159);
            due(NONE, x.feed(0, 0, 0, 0, 0x00010001));
            due(159, x.many(16));
            due(160, x.feed(0, 0, 0, 0, 1));
            x.end(141);
            due(NONE, x.feed(-1, -1, -1, -1, -1));
            due(141, x.many(16));
            due(160, x.feed(-1, -1, -1, -1, 0x00ffffff));
        });
    }

    private static void end() {
        holds(14, "The TAPE has its first n bytes alone.", () -> {
            EveryChild x = new EveryChild();
            write(x, "w:12;h:1");
            yes(x.end(8));
            due(8, x.many(16));
            yes(x.end(4));
            due(4, x.many(16));
            due(NONE, x.fault());
            due(6, x.feed('3' << 24 | '4' << 16, 0, 0, 0, 0));
            due(0, x.law(0, 0));
            due(1234, x.worth(0, 0, 0, 'w', 0, 0, 0, 0));
            due(40, x.worth(0, 0, 0, 'h', 0, 0, 0, 0));
        });
        holds(14, "False: n.", () -> {
            EveryChild x = new EveryChild();
            yes(x.end(0));
            no(x.end(1));
            write(x, "w:12");
            for (int n : new int[] {-1, 5, 160, 161, MIN, MAX}) no(x.end(n));
            due(4, x.many(16));
            edges(0, 4, n -> {
                EveryChild y = new EveryChild();
                write(y, "w:12");
                return y.end(n) && y.many(16) == n;
            });
        });
    }

    /** That a text has no fault. */
    private static void right(String... texts) {
        for (String text : texts) due(NONE, fault(text));
    }

    /** That a text's last byte is the first at which no text can go on. */
    private static void spoilt(String... texts) {
        for (String text : texts) due(text.length() - 1, fault(text));
    }

    /** That a text ends too early. */
    private static void early(String... texts) {
        for (String text : texts) due(text.length(), fault(text));
    }

    private static void clauses() {
        holds(15, "CLAUSES with ; between, one at least: a LABEL (w h s t v c f), a : , perhaps CONDITION ?, then SUM.", () -> {
            for (char label : LABELS.toCharArray()) right(label + ":1", label + ":1=1?1", "w:1;" + label + ":1");
            for (int sign = 1; sign < 256; sign++)
                if (LABELS.indexOf(sign) < 0 && sign != ' ') spoilt("" + (char) sign, "w:1;" + (char) sign);
            early("", "w", "w:", "w:1;", "w:1;w", "w:1;w:", "w:1=1?");
            spoilt("w;", "ww", "w1", "w?", ":", ";", "w::", "w:;", "w:?", "w:1;;", "w:1:", "w:1w", "w:1?", "w:1=1?;", "w:1=1?2?",
                "w:1=1;", "w:1,", "w:1.");
            right("w:1;w:2", "w:1;h:2;s:3;t:4;v:5;c:6;f:7", "w:1=1?2;w:3", "w:1;".repeat(39) + "w:1");
            early("w:1;".repeat(40));
        });
    }

    private static void conditions() {
        holds(15, "CONDITION: PARTS with | between; PART: UNITS with & between; UNIT: ! UNIT, ( CONDITION ), or SUM, one of = < >, SUM.", () -> {
            right("w:1=1?1", "w:1<1?1", "w:1>1?1", "w:1=1|1=1?1", "w:1=1&1=1?1", "w:1=1|1=1&1=1|1=1?1", "w:!1=1?1", "w:(1=1)?1",
                "w:!(1=1)?1", "w:(!1=1)?1", "w:1=1&!1=1?1", "w:1=1|(1=1|1=1)&!!1=1?1", "w:(1=1&1=1|1=1)?1", "w:((1=1)|(1=1))?1",
                "w:1+2*3=[4]-5/6?1");
            early("w:1=", "w:1=1", "w:1=1|", "w:1=1&", "w:!", "w:!1", "w:!1=1", "w:(", "w:(1", "w:(1=1", "w:(1=1)", "w:(1=1)&");
            spoilt("w:1==", "w:1=<", "w:1=>", "w:1=1=", "w:1=1<", "w:1=1>", "w:1|", "w:1&", "w:1=1||", "w:1=1&&", "w:1=1|&", "w:1=1&|",
                "w:1=1!", "w:1=1(", "w:1=1)", "w:()", "w:(1)", "w:(1|", "w:(1?", "w:(1=1?", "w:(1=1;", "w:(1=1))", "w:(1=1)=", "w:(1=1)+",
                "w:(1=1)!", "w:(1=1)1", "w:(1=1]", "w:!1?", "w:!1&", "w:!1)", "w:!?", "w:!)", "w:!]", "w:!|", "w:1=1&1?", "w:1=1&1|",
                "w:1=1|1&", "w:1=1|1?", "w:1=(", "w:1=!", "w:1=1&?", "w:|", "w:&", "w:=", "w:<", "w:>");
        });
        holds(15, "(A CLAUSE that goes on, behind its : , with ! or ( has a CONDITION.)", () -> {
            spoilt("w:(1)", "w:(1+2)", "w:(1;", "w:!1;", "w:!1=1;", "w:(1=1);", "w:!(1=1);");
            early("w:!1=1", "w:(1=1)", "w:!(1=1)", "w:(1=1)|1=1");
            right("w:!1=1?1", "w:(1=1)?1", "w:(1=1)&1=1?1");
            // a sum that is no condition yet may still become one
            right("w:1", "w:1=1?1", "w:[1]", "w:[1]=1?1");
            // a sum does not go on with these
            spoilt("w:1=1?(", "w:1=1?!", "w:1+(", "w:1+!", "w:[(", "w:[!", "w:1*(", "w:1/!", "w:1-(");
        });
    }

    private static void sums() {
        holds(15, "SUM: TERMS with + or - between; TERM: ATOMS with * or / between; ATOM: a number (1 to 4 digits),"
            + " a letter (y i n l x r), [ SUM ].", () -> {
            right("w:1+1", "w:1-1", "w:1*1", "w:1/1", "w:1+2-3*4/5", "w:[1]", "w:[1+2]*[3-4]", "w:[[1]]", "w:0", "w:12", "w:123",
                "w:1234", "w:0000", "w:9999");
            for (char letter : "yinlxr".toCharArray()) right("w:" + letter, "w:1+" + letter + "*2");
            for (int sign = 1; sign < 256; sign++) {
                boolean begins = "yinlxr[(! ".indexOf(sign) >= 0 || sign >= '0' && sign <= '9';
                if (!begins) spoilt("w:" + (char) sign, "w:[" + (char) sign);
                boolean goesOn = "yinlxr[ ".indexOf(sign) >= 0 || sign >= '0' && sign <= '9';
                if (!goesOn) spoilt("w:1+" + (char) sign, "w:1-" + (char) sign, "w:1*" + (char) sign, "w:1/" + (char) sign);
            }
            early("w:1+", "w:1-", "w:1*", "w:1/", "w:[", "w:[1", "w:[1+", "w:[1+[2]");
            spoilt("w:-", "w:+", "w:1+-", "w:1--", "w:1**", "w:1//", "w:[]", "w:[1)", "w:[1=", "w:[1<", "w:[1&", "w:[1?", "w:[1;", "w:[1[",
                "w:1]", "w:1)", "w:1[", "w:1y", "w:y1", "w:yi", "w:[1]1", "w:[1]y", "w:[1][", "w:[1]]", "w:12345", "w:1+00000", "w:[12345",
                "w:1=12345");
        });
    }

    private static void blanks() {
        holds(15, "Blanks (32) may stand between all these, not within numbers;", () -> {
            String[] pieces = {"w", ":", "!", "(", "n", "=", "[", "1", "+", "23", "]", ")", "&", "x", "<", "4", "|", "r", ">", "5", "?",
                "y", "*", "6", "/", "7", "-", "8", ";", "h", ":", "9"};
            StringBuilder loose = new StringBuilder();
            for (String piece : pieces) loose.append(piece).append(piece.length() % 2 == 1 ? "  " : " ");
            right(String.join("", pieces), String.join(" ", pieces), loose.toString(), " w:1", "w:1 ");
            for (int k = 0; k + 1 < pieces.length; k++) {
                String[] one = pieces.clone();
                one[k] = one[k] + " ";
                right(String.join("", one));
            }
            spoilt("w:1 2", "w:12 3", "w:123 4", "w:1  2", "w:y i", "w:1 y", "w:1= =", "w:1 = 1 =", "q", " q", "w q", "w: q");
            for (int sign : new int[] {9, 10, 13, 31, 44, 160}) spoilt("w" + (char) sign, "w:" + (char) sign, "w:1" + (char) sign);
            early(" ", "w ", "w: ", "w:1 ; ", "w:1 + ", "w:1=1 ");
        });
    }

    private static void depths() {
        holds(15, "at most six of ( [ ! within one another.", () -> {
            right("w:[[[[[[1]]]]]]", "w:((((((1=1))))))?1", "w:!!!!!!1=1?1", "w:!(!(!(1=1)))?1", "w:((([[[1]]]=1)))?1", "w:!!!([[1]]=1)?1");
            for (String six : new String[] {"((((((", "!!!!!!", "!(!(!(", "(((!!!", "([[[[[", "![[[[[", "((([[[", "!!![[[", "[[[[[["}) {
                early("w:" + six);
                spoilt("w:" + six + "[");
                if (six.indexOf('[') < 0) spoilt("w:" + six + "(", "w:" + six + "!", "w:" + six + "1=[", "w:" + six + "1+[", "w:1=1&" + six + "[");
            }
            // what is closed counts no longer
            right("w:[[[[[[1]]]]]]+[[[[[[1]]]]]]", "w:[[[[[[1]]]]]];h:[[[[[[1]]]]]]", "w:!!!!!!1=1&!!!!!!1=1?1", "w:!!!!!!1=1&[1]=1?1",
                "w:((((((1=1))))))|((((((1=1))))))?1", "w:((((((1=1))))))&[[[[[[1]]]]]]=[[[[[[1]]]]]]?[[[[[[1]]]]]]",
                "w:!1=1&((((((1=1))))))?1", "w:(!1=1&(((((1=1))))))?1", "w:[[[[[1]+[1]]]]]", "w:[[[[[[1]+1]]]]+[[[[1]]]]]");
            spoilt("w:(!1=1&((((((", "w:[[[[[[1]+[1]+[[", "w:!!!!!(1=1&[", "w:[1]+[[[[[[[");
        });
    }

    private static void faults() {
        holds(15, "FAULT: the first byte at which no text can go on (the length, if it ends too early); a fifth digit,"
            + " a seventh of these are such.", () -> {
            Object[][] told = {{"", 0}, {"  ", 2}, {"w:1?2;h:3", 3}, {"qq?", 0}, {"w1:2", 1}, {"w:1+;h:2", 4}, {"w:1=2;h:3", 5}, {"w:12345678", 6},
                {"w:1234 5", 7}, {"w:1=2=3?4", 5}, {"w:(1)=1?2", 4}, {"w:[1=1]", 4}, {"w:1;q:2;q:3", 4}, {"w:1 2 3", 4}, {"w:[[[[[[[1]]]]]]]", 8},
                {"w:((((((!1=1))))))?1", 8}, {"w:!!!!!!!1=1?1", 8}, {"w:!!!!!!(1=1)?1", 8}, {"w:1=2?3;", 8}, {"w:1=2?", 6}, {"w:1=", 4}, {"w:[1", 4},
                {"w:1;h", 5}, {"w:1;h:", 6}, {"w:[1 ", 5}, {"w:1=1 ", 6}, {"w:1-1-", 6}};
            for (Object[] one : told) due((Integer) one[1], fault((String) one[0]));
            due(157, fault("w:1;".repeat(39) + "w;"));
            due(160, fault("w:1;".repeat(39) + "w:1+"));
            due(NONE, fault("w:1;".repeat(39) + "w:12"));
        });
        holds(15, "The FAULT of the TAPE; NONE.", () -> {
            EveryChild x = new EveryChild();
            due(0, x.fault());
            write(x, "w:1;h");
            due(5, x.fault());
            due(5, x.fault());
            x.end(3);
            due(NONE, x.fault());
            x.end(2);
            due(2, x.fault());
            due(2, x.many(16));
            // what an earlier text left open or said counts no longer
            String six = "w:[[[[[[1]]]]]]";
            for (int k = 0; k < 3; k++) {
                for (String open : new String[] {"w:[[[[[[", "w:((((((", "w:!!!!!!", "h:4;s:5;w:(([[1;"}) {
                    write(x, open);
                    yes(x.fault() > 0);
                    write(x, six);
                    due(NONE, x.fault());
                }
            }
            write(x, "h:" + "1+".repeat(78) + "7");
            for (int k = 0; k < 20; k++) due(NONE, x.fault());
            due(0, x.law(0, 0));
            due(85, x.worth(0, 0, 0, 'h', 0, 0, 0, 0));
            due(60, x.worth(0, 0, 0, 'w', 0, 0, 0, 0));
            due(1, x.worth(0, 0, 0, 's', 0, 0, 0, 0));
        });
    }

    private static void law() {
        holds(16, "LAWS (20 texts at most) of the LAND or of a SHIRE, from a YEAR (0 .. 11) on.", () -> {
            edges(NONE, 3, shire -> laid("w:7").law(shire, 0) == 0);
            edges(0, 11, year -> laid("w:7").law(0, year) == 0);
            edges(0, 11, year -> laid("w:7").law(NONE, year) == 0);
            EveryChild x = new EveryChild();
            for (int k = 0; k < 20; k++) law(x, k % 5 - 1, k % 12, "w:" + k);
            write(x, "w:7");
            due(NONE, x.law(0, 0));
        });
        holds(16, "The TAPE (empty then; if refused it stays) is a LAW of a SHIRE (NONE: the LAND) from a YEAR on: its number.", () -> {
            EveryChild x = laid("w:7");
            due(0, x.law(2, 3));
            due(0, x.many(16));
            due(0, x.fault());
            due(7, x.worth(2, 3, 0, 'w', 0, 0, 0, 0));
            due(60, x.worth(2, 2, 0, 'w', 0, 0, 0, 0));
            due(7, x.worth(2, 11, 0, 'w', 0, 0, 0, 0));
            for (int shire : new int[] {0, 1, 3}) due(60, x.worth(shire, 3, 0, 'w', 0, 0, 0, 0));
            write(x, "w:8");
            due(1, x.law(NONE, 4));
            for (int shire = 0; shire < 4; shire++) {
                due(8, x.worth(shire, 4, 0, 'w', 0, 0, 0, 0));
                due(shire == 2 ? 7 : 60, x.worth(shire, 3, 0, 'w', 0, 0, 0, 0));
            }
        });
        holds(16, "NONE: a FAULT, out of bounds, there are 20.", () -> {
            EveryChild x = new EveryChild();
            due(NONE, x.law(0, 0));
            write(x, "w:7;");
            due(NONE, x.law(0, 0));
            due(4, x.many(16));
            write(x, "w:7");
            int[][] none = {{-2, 0}, {4, 0}, {0, -1}, {0, 12}, {NONE, 12}, {MIN, 0}, {MAX, 0}, {0, MIN}, {0, MAX}};
            for (int[] a : none) due(NONE, x.law(a[0], a[1]));
            due(3, x.many(16));
            due(0, x.many(4));
            for (int k = 0; k < 19; k++) law(x, NONE, 0, "w:" + k);
            write(x, "w:77");
            due(19, x.law(NONE, 0));
            write(x, "w:88");
            due(NONE, x.law(NONE, 0));
            due(4, x.many(16));
            due(20, x.many(4));
            due(77, x.worth(0, 0, 0, 'w', 0, 0, 0, 0));
        });
    }

    private static EveryChild laid(String text) {
        EveryChild x = new EveryChild();
        write(x, text);
        return x;
    }
}
