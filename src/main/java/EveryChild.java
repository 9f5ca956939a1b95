import java.util.Arrays;

public final class EveryChild {
    public static final int NONE = -1;

    private static final int UNTOLD = -2000000;
    private static final int LAST_WEEK = 600;
    private static final int WEEKS_AT_ONCE = 104;
    private static final int YEAR = 52;
    private static final int LAST_YEAR = 11;
    private static final int NEVER = 12;
    private static final int WIDTH = 12;
    private static final int HEIGHT = 10;
    private static final int CELLS = 120;
    private static final int LAST_SHIRE = 3;
    private static final int LAST_TONGUE = 7;
    private static final int ALL_TONGUES = 255;
    private static final int VILLAGES = 24;
    private static final int COUNTS = 200;
    private static final int SCHOOLS = 20;
    private static final int KINDS = 5;
    private static final int MAKERS = 8;
    private static final int LORRIES = 10;
    private static final int GIFTS = 200;
    private static final int TEACHERS = 40;
    private static final int RECOUNTS = 60;
    private static final int ROOFS = 60;
    private static final int WINDS = 60;
    private static final int PATTERNS = 5;
    private static final int LENDERS = 4;
    private static final int BILLS = 40;
    private static final int SORTS = 8;
    private static final int SITES = 9;
    private static final int ROWS = 6;
    private static final int ROW_YEARS = 8;
    private static final int LAWS = 20;
    private static final int TAPE = 160;

    /** Labels of the laws, in the order in which the document tells them. */
    private static final int WALKED = 0;
    private static final int HEADS = 1;
    private static final int SHIFTED = 2;
    private static final int TAUGHT = 3;
    private static final int VALUED = 4;
    private static final int COINED = 5;
    private static final int TONGUED = 6;

    private int now;
    private final Land land;
    private final Tape tape;
    private final Code code;
    private final Folk folk;
    private final Schools schools;
    private final Yard yard;
    private final Seats seats;
    private final Staff staff;
    private final Roofs roofs;
    private final Sites sites;
    private final Purse purse;

    public EveryChild() {
        land = new Land();
        tape = new Tape();
        code = new Code();
        folk = new Folk(code);
        schools = new Schools(code);
        yard = new Yard(land, code, folk, schools);
        seats = new Seats(land, code, folk, schools);
        staff = new Staff(code, schools);
        roofs = new Roofs(schools);
        sites = new Sites(land, folk);
        purse = new Purse(code);
    }

    public int weeks(int n) {
        if (!within(n, 0, WEEKS_AT_ONCE) || n > LAST_WEEK - now) {
            return NONE;
        }
        for (int k = 0; k < n; k++) {
            now++;
            yard.bring(now);
            yard.drive(now);
            yard.raise(now);
        }
        return now;
    }

    public boolean draw(int x, int y, int w, int h, int dry, int wet) {
        boolean inside = within(x, 0, WIDTH - 1) && within(y, 0, HEIGHT - 1)
            && within(w, 1, WIDTH - x) && within(h, 1, HEIGHT - y);
        if (!inside || !within(dry, 1, 99) || !within(wet, 0, 99)) {
            return false;
        }
        for (int line = y; line < y + h; line++) {
            land.paint(line * WIDTH + x, line * WIDTH + x + w - 1, dry, wet);
        }
        return true;
    }

    public int walk(int from, int to, int season) {
        if (!isCell(from) || !isCell(to) || !within(season, 0, 1)) {
            return NONE;
        }
        int minutes = land.rowFrom(from, season == 1)[to];
        return minutes < Land.FAR ? minutes : NONE;
    }

    public boolean rain(int from, int to, boolean wet) {
        if (!within(from, 0, LAST_WEEK) || !within(to, from, LAST_WEEK)) {
            return false;
        }
        land.soak(from, to, wet);
        return true;
    }

    public int village(int cell, int shire, int tongue) {
        if (!isCell(cell) || !isShire(shire) || !within(tongue, 0, LAST_TONGUE)) {
            return NONE;
        }
        return folk.settle(cell, shire, tongue);
    }

    public boolean count(int village, int year, int girls, int boys) {
        if (!isVillage(village) || !isYear(year) || !within(girls, 0, 999) || !within(boys, 0, 999)) {
            return false;
        }
        return folk.tell(village, year, girls, boys, now);
    }

    public int child(int village, int year, int q, int what) {
        if (!isVillage(village) || !isYear(year) || !isPast(q) || !within(what, 0, 1)) {
            return NONE;
        }
        return what == 0 ? folk.girlsOf(village, year, q)
            : folk.childrenOf(village, year, q) - folk.girlsOf(village, year, q);
    }

    public int school(int cell, int shire, int rooms, int shifts, int tongues) {
        if (!isCell(cell) || !isShire(shire) || !within(rooms, 1, 20) || !within(shifts, 1, 3)
                || !within(tongues, 1, ALL_TONGUES)) {
            return NONE;
        }
        int number = schools.found(cell, shire, rooms, shifts, tongues, now);
        if (number != NONE) {
            yard.order(number, rooms);
        }
        return number;
    }

    public boolean far(int school, boolean is) {
        if (!isSchool(school) || schools.remote[school] == is) {
            return false;
        }
        schools.remote[school] = is;
        return true;
    }

    public boolean shut(int school, boolean is) {
        if (!isSchool(school) || schools.isShut(school, now) == is) {
            return false;
        }
        schools.close(school, now, is);
        return true;
    }

    public int schooled(int school, int what) {
        if (!isSchool(school)) {
            return NONE;
        }
        switch (what) {
            case 0: return schools.built[school];
            case 1: return schools.isShut(school, now) ? 1 : 0;
            case 2: return schools.rooms[school];
            case 3: return schools.shifts[school];
            case 4: return schools.tongues[school];
            case 5: return schools.cell[school];
            case 6: return schools.shire[school];
            case 7: return roofs.on[school] ? 1 : 0;
            default: return NONE;
        }
    }

    public int feed(int a, int b, int c, int d, int e) {
        int more = Tape.bytesOf(a) + Tape.bytesOf(b) + Tape.bytesOf(c) + Tape.bytesOf(d) + Tape.bytesOf(e);
        if (tape.length + more > TAPE) {
            return NONE;
        }
        tape.write(a);
        tape.write(b);
        tape.write(c);
        tape.write(d);
        tape.write(e);
        return tape.length;
    }

    public boolean end(int n) {
        if (!within(n, 0, tape.length)) {
            return false;
        }
        tape.length = n;
        return true;
    }

    public int fault() {
        return tape.compile();
    }

    public int law(int shire, int year) {
        if (!within(shire, NONE, LAST_SHIRE) || !isYear(year) || code.size >= LAWS || tape.compile() != NONE) {
            return NONE;
        }
        int number = code.enact(shire, year, now, tape);
        tape.length = 0;
        return number;
    }

    public int worth(int shire, int year, int q, int label, int n, int l, int x, int r) {
        int number = Code.labelOf(label);
        if (!isShire(shire) || !isYear(year) || !isPast(q) || number == NONE) {
            return UNTOLD;
        }
        code.spell(n, l, x, r);
        return code.worthOf(number, shire, year, q, Code.BOTH);
    }

    public int why(int shire, int year, int q, int label, int n, int l, int x, int r) {
        int number = Code.labelOf(label);
        if (!isShire(shire) || !isYear(year) || !isPast(q) || number == NONE) {
            return NONE;
        }
        code.spell(n, l, x, r);
        code.worthOf(number, shire, year, q, Code.BOTH);
        return code.inForce;
    }

    public int quarrel(int shire, int year, int q) {
        if (!isShire(shire) || !isYear(year) || !isPast(q)) {
            return NONE;
        }
        return code.quarrelled(shire, year, q);
    }

    public int places(int school, int week, int q) {
        if (!isSchool(school) || !isPast(week) || !isPast(q)) {
            return NONE;
        }
        return schools.classesOf(school, week, q) * schools.headsOf(school, week, q);
    }

    public int reach(int village, int school, int week, int q) {
        if (!isVillage(village) || !isSchool(school) || !isPast(week) || !isPast(q)) {
            return NONE;
        }
        seats.survey(week, q);
        return seats.way[village * SCHOOLS + school] == NONE ? 0 : 1;
    }

    public int seated(int village, int school, int week, int q) {
        if (!isVillage(village) || !isSchoolOrAll(school) || !isPast(week) || !isPast(q)) {
            return NONE;
        }
        seats.survey(week, q);
        seats.seatAll();
        return school == NONE ? seats.seatedOf(village) : seats.seat[village * SCHOOLS + school];
    }

    public int unseated(int village, int week, int q) {
        if (!isVillage(village) && village != NONE || !isPast(week) || !isPast(q)) {
            return NONE;
        }
        seats.survey(week, q);
        seats.seatAll();
        return village == NONE ? seats.standing() : seats.over[village];
    }

    public int most(int week, int q) {
        if (!isPast(week) || !isPast(q)) {
            return NONE;
        }
        seats.survey(week, q);
        seats.seatAll();
        return seats.seatMore();
    }

    public int site(int cell) {
        return isCell(cell) ? sites.mark(cell) : NONE;
    }

    public int cover(int villages, int week) {
        if (!areVillages(villages) || !within(week, 0, LAST_WEEK)) {
            return NONE;
        }
        sites.look(villages, week, now);
        return sites.fewest(sites.all(), villages);
    }

    public int beyond(int villages, int week) {
        if (!areVillages(villages) || !within(week, 0, LAST_WEEK)) {
            return NONE;
        }
        sites.look(villages, week, now);
        return sites.lowestWithout(sites.all(), villages);
    }

    public int judge(int siteBits, int villages, int week) {
        if (!areSites(siteBits) || !areVillages(villages) || !within(week, 0, LAST_WEEK)) {
            return -2;
        }
        sites.look(villages, week, now);
        return sites.lowestWithout(siteBits, villages);
    }

    public int maker(int kind, int many, int from, int to) {
        if (!isKind(kind) || !within(many, 1, 50) || !within(from, 0, LAST_WEEK) || !within(to, from, LAST_WEEK)) {
            return NONE;
        }
        return yard.hire(kind, many, from, to);
    }

    public int lorry(int carries) {
        return within(carries, 1, 30) ? yard.buy(carries) : NONE;
    }

    public int parts(int school, int kind) {
        if (!isSchoolOrAll(school) || !isKind(kind)) {
            return NONE;
        }
        return school == NONE ? yard.lying[kind] : yard.need[school * KINDS + kind];
    }

    public boolean promise(int village, int school) {
        if (!isVillage(village) || !isSchool(school) || yard.promised[village * SCHOOLS + school]) {
            return false;
        }
        yard.promised[village * SCHOOLS + school] = true;
        return true;
    }

    public boolean give(int village, int school, int much) {
        if (!isVillage(village) || !isSchool(school) || !within(much, 1, 1000)) {
            return false;
        }
        return yard.take(village, school, much);
    }

    public int lack(int school) {
        return isSchool(school) ? yard.lacking(school, now) : NONE;
    }

    public int teacher(int trained, int rank, int tongues, int leaves) {
        if (!isYear(trained) || !within(rank, 0, 9) || !within(tongues, 1, ALL_TONGUES)
                || !within(leaves, trained + 1, NEVER)) {
            return NONE;
        }
        return staff.enrol(trained, rank, tongues, leaves, now);
    }

    public int sent(int teacher, int week, int q) {
        if (!within(teacher, 0, staff.size - 1) || !isPast(week) || !isPast(q)) {
            return NONE;
        }
        staff.assign(week, q);
        return staff.post[teacher];
    }

    public int teacherless(int school, int week, int q) {
        if (!isSchoolOrAll(school) || !isPast(week) || !isPast(q)) {
            return NONE;
        }
        staff.assign(week, q);
        return school == NONE ? staff.allWithout() : staff.without[school];
    }

    public boolean recount(int village, int year, int children) {
        if (!isVillage(village) || !isYear(year) || !within(children, 0, 1998)) {
            return false;
        }
        return folk.tellAgain(village, year, children, now);
    }

    public int span(int shire, int year, int q, int what) {
        if (!isShire(shire) || !isYear(year) || !isPast(q) || !within(what, 0, 1)) {
            return NONE;
        }
        return folk.spanned(shire, year, q, what == 1);
    }

    public boolean strength(int pattern, int v) {
        if (!within(pattern, 0, PATTERNS - 1) || !within(v, 1, 200)) {
            return false;
        }
        roofs.holds[pattern] = v;
        return true;
    }

    public boolean roof(int school, int pattern, int maker) {
        if (!isSchool(school) || !within(pattern, 0, PATTERNS - 1) || !within(maker, 0, yard.makers - 1)) {
            return false;
        }
        return roofs.lay(school, pattern, maker, now);
    }

    public int wind(int shire, int strong) {
        if (!isShire(shire) || !within(strong, 1, 300)) {
            return NONE;
        }
        return roofs.blow(shire, strong, now);
    }

    public int blame() {
        return roofs.worstMaker(yard.makers);
    }

    public boolean treat(int village, int year) {
        if (!isVillage(village) || !isYear(year) || folk.treatedFrom[village] != NONE) {
            return false;
        }
        folk.treatedFrom[village] = year;
        folk.treatedTold[village] = now;
        return true;
    }

    public int stay(int shire, int year, int q) {
        if (!isShire(shire) || !within(year, 1, LAST_YEAR) || !isPast(q)) {
            return UNTOLD;
        }
        return folk.difference(shire, year, q);
    }

    public int lender(int coin) {
        return within(coin, 0, 1000000) ? purse.open(coin) : NONE;
    }

    public boolean bill(int sort, int coin) {
        if (!within(sort, 0, SORTS - 1) || !within(coin, 1, 100000)) {
            return false;
        }
        return purse.owe(sort, coin);
    }

    public int paid(int year, int what) {
        if (!isYear(year) || !within(what, 0, 1)) {
            return NONE;
        }
        purse.ask(year, now);
        return what == 0 ? purse.mostPaid() : purse.paidByNobody();
    }

    public int row(int a, int b) {
        return sites.add(a, b);
    }

    public int plan(int siteBits, int villages, int week) {
        if (!areSites(siteBits) || !areVillages(villages) || !within(week, 0, LAST_WEEK)) {
            return NONE;
        }
        sites.look(villages, week, now);
        return sites.worstYear(sites.fewest(siteBits, villages));
    }

    public int many(int what) {
        switch (what) {
            case 0: return now;
            case 1: return folk.size;
            case 2: return schools.size;
            case 3: return schools.builtInAll();
            case 4: return code.size;
            case 5: return folk.counts;
            case 6: return sites.size;
            case 7: return yard.makers;
            case 8: return yard.lorries;
            case 9: return staff.size;
            case 10: return folk.recounts;
            case 11: return roofs.laid;
            case 12: return roofs.winds;
            case 13: return purse.lenders;
            case 14: return purse.bills;
            case 15: return sites.rows;
            case 16: return tape.length;
            case 17: return yard.lyingInAll();
            default: return NONE;
        }
    }

    private static boolean within(int value, int low, int high) {
        return value >= low && value <= high;
    }

    private static boolean isCell(int cell) {
        return within(cell, 0, CELLS - 1);
    }

    private static boolean isShire(int shire) {
        return within(shire, 0, LAST_SHIRE);
    }

    private static boolean isYear(int year) {
        return within(year, 0, LAST_YEAR);
    }

    private static boolean isKind(int kind) {
        return within(kind, 0, KINDS - 1);
    }

    private boolean isPast(int week) {
        return within(week, 0, now);
    }

    private boolean isVillage(int village) {
        return within(village, 0, folk.size - 1);
    }

    private boolean isSchool(int school) {
        return within(school, 0, schools.size - 1);
    }

    private boolean isSchoolOrAll(int school) {
        return within(school, NONE, schools.size - 1);
    }

    private boolean areVillages(int bits) {
        return within(bits, 0, (1 << folk.size) - 1);
    }

    private boolean areSites(int bits) {
        return within(bits, 0, sites.all());
    }

    /** The cells, what it takes to go onto them, the wet weeks, and the walks between cells. */
    private static final class Land {
        /** Above every sum of minutes and every worth, so that it is near enough to nothing. */
        static final int FAR = 100000000;

        private final int[] dry = new int[CELLS];
        private final int[] wet = new int[CELLS];
        private final boolean[] rainy = new boolean[LAST_WEEK + 1];
        /** Walks from a cell, dry ones first, then wet ones; made when first asked for and kept till land changes. */
        private final int[][] rows = new int[2 * CELLS][];
        private final boolean[] fresh = new boolean[2 * CELLS];

        Land() {
            Arrays.fill(dry, 10);
            Arrays.fill(wet, 15);
        }

        /** Cells of a line from one to another; the walks that were kept hold no longer. */
        void paint(int from, int to, int dryMinutes, int wetMinutes) {
            for (int cell = Math.max(from, 0); cell <= to && cell < CELLS; cell++) {
                dry[cell] = dryMinutes;
                wet[cell] = wetMinutes;
            }
            for (int k = 0; k < fresh.length; k++) {
                fresh[k] = false;
            }
        }

        void soak(int from, int to, boolean is) {
            for (int week = from; week <= to && week < rainy.length; week++) {
                rainy[week] = is;
            }
        }

        boolean isWet(int week) {
            return within(week, 0, LAST_WEEK) && rainy[week];
        }

        boolean isShutWet(int cell) {
            return isCell(cell) && wet[cell] == 0;
        }

        /** The least minutes from a cell to each cell, FAR where there is no way. */
        int[] rowFrom(int cell, boolean inRain) {
            int from = isCell(cell) ? cell : 0;
            int number = inRain ? CELLS + from : from;
            if (rows[number] == null) {
                rows[number] = new int[CELLS];
            }
            if (!fresh[number]) {
                spread(from, inRain ? wet : dry, rows[number]);
                fresh[number] = true;
            }
            return rows[number];
        }

        /** A way has fewer steps than there are cells, and each round finds at least one step more of it. */
        private static void spread(int from, int[] minutes, int[] row) {
            Arrays.fill(row, FAR);
            row[from] = 0;
            boolean moved = true;
            for (int round = 0; round < CELLS && moved; round++) {
                moved = false;
                for (int cell = 0; cell < CELLS; cell++) {
                    moved = ease(cell, minutes, row) || moved;
                }
                for (int cell = CELLS - 1; cell >= 0; cell--) {
                    moved = ease(cell, minutes, row) || moved;
                }
            }
        }

        /** Whether a cell is reached sooner by way of one beside it; the caller's cell is within. */
        private static boolean ease(int cell, int[] minutes, int[] row) {
            if (minutes[cell] == 0) {
                return false;
            }
            int least = FAR;
            if (cell % WIDTH > 0) {
                least = Math.min(least, row[cell - 1]);
            }
            if (cell % WIDTH < WIDTH - 1) {
                least = Math.min(least, row[cell + 1]);
            }
            if (cell >= WIDTH) {
                least = Math.min(least, row[cell - WIDTH]);
            }
            if (cell < CELLS - WIDTH) {
                least = Math.min(least, row[cell + WIDTH]);
            }
            if (least + minutes[cell] >= row[cell]) {
                return false;
            }
            row[cell] = least + minutes[cell];
            return true;
        }
    }

    /** The text that is being fed, and what it says once it is compiled. */
    private static final class Tape {
        private static final int MOST_OPEN = 6;
        private static final int MOST_CLAUSES = 41;

        /** Signs of the compiled code: numbers are below LETTER, letters below SIGN, then come the signs by their bytes. */
        static final int LETTER = 10000;
        static final int SIGN = 20000;

        private final int[] bytes = new int[TAPE];
        private int length;
        private int at;
        private int fault;
        private int open;
        private final int[] program = new int[TAPE];
        private int size;
        /** Four numbers a clause: label, where its condition begins, where its sum begins, where that ends. */
        private final int[] clauses = new int[4 * MOST_CLAUSES];
        private int clauseCount;
        /** The labels that stand in it, as bits. */
        private int labels;

        static int bytesOf(int number) {
            int found = 0;
            for (int shift = 24; shift >= 0; shift -= 8) {
                if ((number >> shift & 255) != 0) {
                    found++;
                }
            }
            return found;
        }

        void write(int number) {
            for (int shift = 24; shift >= 0; shift -= 8) {
                int one = number >> shift & 255;
                if (one != 0 && length < TAPE) {
                    bytes[length] = one;
                    length++;
                }
            }
        }

        /** The fault, or NONE, and then the program and the clauses stand. */
        int compile() {
            at = 0;
            fault = NONE;
            open = 0;
            size = 0;
            clauseCount = 0;
            labels = 0;
            boolean more = true;
            for (int k = 0; k < MOST_CLAUSES && more; k++) {
                readClause();
                more = took(';');
            }
            if (fault == NONE && peek() != 0) {
                fail();
            }
            return fault;
        }

        private void fail() {
            if (fault == NONE) {
                fault = at;
            }
        }

        /** The next byte that is no blank; 0 at the end and behind a fault, so that every reader stops there. */
        private int peek() {
            if (fault != NONE) {
                return 0;
            }
            while (at < length && bytes[at] == ' ') {
                at++;
            }
            return at < length ? bytes[at] : 0;
        }

        private boolean took(int sign) {
            if (peek() != sign) {
                return false;
            }
            at++;
            return true;
        }

        private void want(int sign) {
            if (peek() == sign) {
                at++;
            } else {
                fail();
            }
        }

        private void emit(int step) {
            if (size < program.length) {
                program[size] = step;
                size++;
            }
        }

        private void readClause() {
            int label = Code.labelOf(peek());
            if (label == NONE) {
                fail();
                return;
            }
            at++;
            want(':');
            int begin = size;
            int middle = size;
            int next = peek();
            boolean decided = next == '!' || next == '(';
            if (!decided) {
                readSum();
            }
            if (decided || isRelation(peek())) {
                readCondition(!decided);
                want('?');
                middle = size;
                readSum();
            }
            keepClause(label, begin, middle);
        }

        private void keepClause(int label, int begin, int middle) {
            int first = 4 * clauseCount;
            if (first + 3 < clauses.length) {
                clauses[first] = label;
                clauses[first + 1] = begin;
                clauses[first + 2] = middle;
                clauses[first + 3] = size;
                clauseCount++;
                labels |= 1 << label;
            }
        }

        /** Begun: its first sum was read already, before it was known to stand in a condition. */
        private void readCondition(boolean begun) {
            readPart(begun);
            for (int k = 0; k < TAPE && took('|'); k++) {
                readPart(false);
                emit(SIGN + '|');
            }
        }

        private void readPart(boolean begun) {
            readUnit(begun);
            for (int k = 0; k < TAPE && took('&'); k++) {
                readUnit(false);
                emit(SIGN + '&');
            }
        }

        private void readUnit(boolean begun) {
            int next = begun ? 0 : peek();
            if (next == '!') {
                if (opened()) {
                    readUnit(false);
                    open--;
                    emit(SIGN + '!');
                }
            } else if (next == '(') {
                if (opened()) {
                    readCondition(false);
                    want(')');
                    open--;
                }
            } else {
                if (!begun) {
                    readSum();
                }
                int sign = peek();
                if (isRelation(sign)) {
                    at++;
                    readSum();
                    emit(SIGN + sign);
                } else {
                    fail();
                }
            }
        }

        private void readSum() {
            readTerm();
            int sign = peek();
            for (int k = 0; k < TAPE && (sign == '+' || sign == '-'); k++) {
                at++;
                readTerm();
                emit(SIGN + sign);
                sign = peek();
            }
        }

        private void readTerm() {
            readAtom();
            int sign = peek();
            for (int k = 0; k < TAPE && (sign == '*' || sign == '/'); k++) {
                at++;
                readAtom();
                emit(SIGN + sign);
                sign = peek();
            }
        }

        private void readAtom() {
            int next = peek();
            if (isDigit(next)) {
                readNumber();
            } else if (letterOf(next) != NONE) {
                at++;
                emit(LETTER + letterOf(next));
            } else if (next == '[') {
                if (opened()) {
                    readSum();
                    want(']');
                    open--;
                }
            } else {
                fail();
            }
        }

        private void readNumber() {
            int value = 0;
            for (int k = 0; k < 4 && at < length && isDigit(bytes[at]); k++) {
                value = 10 * value + bytes[at] - '0';
                at++;
            }
            if (at < length && isDigit(bytes[at])) {
                fail();
            }
            emit(value);
        }

        private boolean opened() {
            if (open >= MOST_OPEN) {
                fail();
                return false;
            }
            open++;
            at++;
            return true;
        }

        private static boolean isDigit(int sign) {
            return sign >= '0' && sign <= '9';
        }

        private static boolean isRelation(int sign) {
            return sign == '=' || sign == '<' || sign == '>';
        }

        private static int letterOf(int sign) {
            switch (sign) {
                case 'y': return Code.Y;
                case 'i': return Code.I;
                case 'n': return Code.N;
                case 'l': return Code.L;
                case 'x': return Code.X;
                case 'r': return Code.R;
                default: return NONE;
            }
        }
    }

    /** The laws, which of them is in force, and what it is worth. */
    private static final class Code {
        static final int Y = 0;
        static final int I = 1;
        static final int N = 2;
        static final int L = 3;
        static final int X = 4;
        static final int R = 5;
        /** Whose laws are looked at. */
        static final int BOTH = 0;
        static final int LAND = 1;
        static final int SHIRE = 2;

        private static final int LIMIT = 1000000;
        private static final int[] LABELS = {'w', 'h', 's', 't', 'v', 'c', 'f'};
        private static final int[] USUAL = {60, 40, 1, 1, 0, 1, 0};

        private int size;
        private final int[] shire = new int[LAWS];
        private final int[] year = new int[LAWS];
        private final int[] told = new int[LAWS];
        private final int[] labels = new int[LAWS];
        private final int[][] programs = new int[LAWS][];
        private final int[][] clauses = new int[LAWS][];
        private final int[] letters = new int[6];
        private final int[] stack = new int[64];
        /** The law that the last worth came from, NONE if it was the usual one. */
        private int inForce;

        static int labelOf(int sign) {
            for (int k = 0; k < LABELS.length; k++) {
                if (LABELS[k] == sign) {
                    return k;
                }
            }
            return NONE;
        }

        /** The tape was compiled by the caller, and there is room for one more. */
        int enact(int ofShire, int fromYear, int now, Tape tape) {
            if (size >= LAWS) {
                return NONE;
            }
            shire[size] = ofShire;
            year[size] = fromYear;
            told[size] = now;
            labels[size] = tape.labels;
            programs[size] = Arrays.copyOf(tape.program, tape.size);
            clauses[size] = Arrays.copyOf(tape.clauses, 4 * tape.clauseCount);
            size++;
            return size - 1;
        }

        void spell(int n, int l, int x, int r) {
            letters[N] = n;
            letters[L] = l;
            letters[X] = x;
            letters[R] = r;
        }

        /** With the letters n l x r as they were spelled last. */
        int worthOf(int label, int ofShire, int inYear, int q, int whose) {
            letters[Y] = inYear;
            letters[I] = ofShire;
            inForce = NONE;
            int clause = NONE;
            int latest = 0;
            for (int law = 0; law < size; law++) {
                boolean speaks = told[law] <= q && (labels[law] >> label & 1) == 1 && binds(law, ofShire, whose);
                if (!speaks || year[law] > inYear || year[law] < latest) {
                    continue;
                }
                int holding = clauseThatHolds(law, label);
                if (holding != NONE) {
                    inForce = law;
                    clause = holding;
                    latest = year[law];
                }
            }
            int[] found = inForce == NONE ? null : clauses[inForce];
            if (found == null || !within(clause, 0, found.length - 4)) {
                return within(label, 0, USUAL.length - 1) ? USUAL[label] : 0;
            }
            return run(programs[inForce], found[clause + 2], found[clause + 3]);
        }

        int quarrelled(int ofShire, int inYear, int q) {
            spell(0, 0, 0, 0);
            for (int label = 0; label < LABELS.length; label++) {
                int ofLand = worthOf(label, ofShire, inYear, q, LAND);
                boolean landSays = inForce != NONE;
                int ofIt = worthOf(label, ofShire, inYear, q, SHIRE);
                if (landSays && inForce != NONE && ofLand != ofIt) {
                    return LABELS[label];
                }
            }
            return NONE;
        }

        private boolean binds(int law, int ofShire, int whose) {
            boolean ofLand = shire[law] == NONE;
            return ofLand ? whose != SHIRE : shire[law] == ofShire && whose != LAND;
        }

        /** Where the numbers of the first clause of a label that holds begin. */
        private int clauseThatHolds(int law, int label) {
            int[] list = clauses[law];
            if (list == null) {
                return NONE;
            }
            for (int k = 0; k + 3 < list.length; k += 4) {
                boolean free = list[k + 1] == list[k + 2];
                if (list[k] == label && (free || run(programs[law], list[k + 1], list[k + 2]) != 0)) {
                    return k;
                }
            }
            return NONE;
        }

        /** Runs steps of a program over the stack; a condition that holds leaves 1. */
        private int run(int[] program, int from, int to) {
            if (program == null || from < 0) {
                return 0;
            }
            int top = 0;
            for (int k = from; k < to && k < program.length; k++) {
                int step = program[k];
                if (step < Tape.SIGN) {
                    if (top < stack.length) {
                        stack[top] = step < Tape.LETTER ? step : letterAt(step - Tape.LETTER);
                        top++;
                    }
                } else if (step == Tape.SIGN + '!') {
                    if (top > 0) {
                        stack[top - 1] = stack[top - 1] == 0 ? 1 : 0;
                    }
                } else if (top > 1) {
                    top--;
                    stack[top - 1] = joined(step - Tape.SIGN, stack[top - 1], stack[top]);
                }
            }
            return stack[0];
        }

        private int letterAt(int number) {
            return number >= 0 && number < letters.length ? letters[number] : 0;
        }

        /** Long numbers, for letters can be told as great as an int is. */
        private static int joined(int sign, long a, long b) {
            switch (sign) {
                case '=': return a == b ? 1 : 0;
                case '<': return a < b ? 1 : 0;
                case '>': return a > b ? 1 : 0;
                case '&': return a != 0 && b != 0 ? 1 : 0;
                case '|': return a != 0 || b != 0 ? 1 : 0;
                default: break;
            }
            long value = sign == '+' ? a + b : sign == '-' ? a - b : sign == '*' ? a * b : b == 0 ? 0 : a / b;
            return value > LIMIT ? LIMIT : value < -LIMIT ? -LIMIT : (int) value;
        }
    }

    /** The villages, what was counted and recounted in them, and where girls are helped to stay. */
    private static final class Folk {
        private final Code code;
        private int size;
        private final int[] cell = new int[VILLAGES];
        private final int[] shire = new int[VILLAGES];
        private final int[] tongue = new int[VILLAGES];
        private final int[] treatedFrom = new int[VILLAGES];
        private final int[] treatedTold = new int[VILLAGES];
        private int counts;
        private final int[] countVillage = new int[COUNTS];
        private final int[] countYear = new int[COUNTS];
        private final int[] countTold = new int[COUNTS];
        private final int[] countGirls = new int[COUNTS];
        private final int[] countBoys = new int[COUNTS];
        private int recounts;
        private final int[] recountVillage = new int[RECOUNTS];
        private final int[] recountYear = new int[RECOUNTS];
        private final int[] recountTold = new int[RECOUNTS];
        private final int[] recountChildren = new int[RECOUNTS];

        Folk(Code laws) {
            code = laws;
            Arrays.fill(treatedFrom, NONE);
        }

        int settle(int ofCell, int ofShire, int ofTongue) {
            if (size >= VILLAGES) {
                return NONE;
            }
            cell[size] = ofCell;
            shire[size] = ofShire;
            tongue[size] = ofTongue;
            size++;
            return size - 1;
        }

        boolean tell(int village, int year, int girls, int boys, int now) {
            if (counts >= COUNTS) {
                return false;
            }
            countVillage[counts] = village;
            countYear[counts] = year;
            countTold[counts] = now;
            countGirls[counts] = girls;
            countBoys[counts] = boys;
            counts++;
            return true;
        }

        boolean tellAgain(int village, int year, int children, int now) {
            if (recounts >= RECOUNTS) {
                return false;
            }
            recountVillage[recounts] = village;
            recountYear[recounts] = year;
            recountTold[recounts] = now;
            recountChildren[recounts] = children;
            recounts++;
            return true;
        }

        int girlsOf(int village, int year, int q) {
            int found = countOf(village, year, q);
            return found == NONE ? 0 : countGirls[found];
        }

        int childrenOf(int village, int year, int q) {
            int found = countOf(village, year, q);
            return found == NONE ? 0 : countGirls[found] + countBoys[found];
        }

        /** How far the children of a village may have to walk by law. */
        int walkLimit(int village, int year, int q) {
            code.spell(childrenOf(village, year, q), tongue[village], 0, 0);
            return code.worthOf(WALKED, shire[village], year, q, Code.BOTH);
        }

        int spanned(int ofShire, int year, int q, boolean upper) {
            long sum = 0;
            long least = -1;
            long greatest = -1;
            for (int village = 0; village < size; village++) {
                if (shire[village] != ofShire) {
                    continue;
                }
                int children = childrenOf(village, year, q);
                int found = recountOf(village, year, q);
                sum += children;
                if (found != NONE && children > 0) {
                    long part = 1000L * recountChildren[found] / children;
                    least = least < 0 ? part : Math.min(least, part);
                    greatest = Math.max(greatest, part);
                }
            }
            if (least < 0) {
                return (int) sum;
            }
            return (int) (sum * (upper ? greatest : least) / 1000);
        }

        int difference(int ofShire, int year, int q) {
            int treatedSum = 0;
            int treated = 0;
            int otherSum = 0;
            int others = 0;
            for (int village = 0; village < size; village++) {
                if (shire[village] != ofShire || childrenOf(village, year, q) == 0
                        || childrenOf(village, year - 1, q) == 0) {
                    continue;
                }
                int change = girlsInThousand(village, year, q) - girlsInThousand(village, year - 1, q);
                if (isTreated(village, year, q)) {
                    treatedSum += change;
                    treated++;
                } else {
                    otherSum += change;
                    others++;
                }
            }
            return treated < 2 || others < 2 ? UNTOLD : treatedSum / treated - otherSum / others;
        }

        private boolean isTreated(int village, int year, int q) {
            return treatedFrom[village] != NONE && treatedFrom[village] <= year && treatedTold[village] <= q;
        }

        private int girlsInThousand(int village, int year, int q) {
            int children = childrenOf(village, year, q);
            return children == 0 ? 0 : 1000 * girlsOf(village, year, q) / children;
        }

        private int countOf(int village, int year, int q) {
            int found = NONE;
            int latest = 0;
            for (int k = 0; k < counts; k++) {
                if (countVillage[k] == village && countTold[k] <= q && countYear[k] <= year
                        && countYear[k] >= latest) {
                    found = k;
                    latest = countYear[k];
                }
            }
            return found;
        }

        private int recountOf(int village, int year, int q) {
            int found = NONE;
            for (int k = 0; k < recounts; k++) {
                if (recountVillage[k] == village && recountYear[k] == year && recountTold[k] <= q) {
                    found = k;
                }
            }
            return found;
        }
    }

    /** The schools as they were told, when they were built, and in which weeks they are shut. */
    private static final class Schools {
        private final Code code;
        private int size;
        private final int[] cell = new int[SCHOOLS];
        private final int[] shire = new int[SCHOOLS];
        private final int[] rooms = new int[SCHOOLS];
        private final int[] shifts = new int[SCHOOLS];
        private final int[] tongues = new int[SCHOOLS];
        private final int[] told = new int[SCHOOLS];
        private final int[] built = new int[SCHOOLS];
        private final boolean[] remote = new boolean[SCHOOLS];
        /** For each week the schools that are shut, as bits. */
        private final int[] shutIn = new int[LAST_WEEK + 1];

        Schools(Code laws) {
            code = laws;
            Arrays.fill(built, NONE);
        }

        int found(int ofCell, int ofShire, int ofRooms, int ofShifts, int ofTongues, int now) {
            if (size >= SCHOOLS) {
                return NONE;
            }
            cell[size] = ofCell;
            shire[size] = ofShire;
            rooms[size] = ofRooms;
            shifts[size] = ofShifts;
            tongues[size] = ofTongues;
            told[size] = now;
            size++;
            return size - 1;
        }

        void close(int school, int now, boolean is) {
            for (int week = now; week < shutIn.length; week++) {
                shutIn[week] = is ? shutIn[week] | 1 << school : shutIn[week] & ~(1 << school);
            }
        }

        boolean isShut(int school, int week) {
            return within(week, 0, LAST_WEEK) && (shutIn[week] >> school & 1) == 1;
        }

        /** What was told of being shut behind q is not known in q, so that the earlier of both weeks decides. */
        int classesOf(int school, int week, int q) {
            boolean stands = built[school] != NONE && built[school] <= week && told[school] <= q;
            if (!stands || isShut(school, Math.min(week, q))) {
                return 0;
            }
            code.spell(0, 0, 0, 0);
            int lawful = code.worthOf(SHIFTED, shire[school], week / YEAR, q, Code.BOTH);
            return rooms[school] * Math.max(1, Math.min(shifts[school], lawful));
        }

        int headsOf(int school, int week, int q) {
            code.spell(0, 0, 0, 0);
            return Math.max(0, code.worthOf(HEADS, shire[school], week / YEAR, q, Code.BOTH));
        }

        int builtInAll() {
            int sum = 0;
            for (int school = 0; school < size; school++) {
                if (built[school] != NONE) {
                    sum++;
                }
            }
            return sum;
        }
    }

    /** Makers, the yard, lorries, and what the villages give: how schools come to be built. */
    private static final class Yard {
        private static final int[] PER_ROOM = {1, 2, 4, 1, 3};

        private final Land land;
        private final Code code;
        private final Folk folk;
        private final Schools schools;
        private int makers;
        private final int[] makerKind = new int[MAKERS];
        private final int[] makerMany = new int[MAKERS];
        private final int[] makerFrom = new int[MAKERS];
        private final int[] makerTo = new int[MAKERS];
        private int lorries;
        private final int[] carries = new int[LORRIES];
        private final int[] lying = new int[KINDS];
        private final int[] need = new int[SCHOOLS * KINDS];
        private int gifts;
        private final boolean[] promised = new boolean[VILLAGES * SCHOOLS];
        private final int[] given = new int[VILLAGES * SCHOOLS];

        Yard(Land ofLand, Code laws, Folk ofFolk, Schools ofSchools) {
            land = ofLand;
            code = laws;
            folk = ofFolk;
            schools = ofSchools;
        }

        int hire(int kind, int much, int from, int to) {
            if (makers >= MAKERS) {
                return NONE;
            }
            makerKind[makers] = kind;
            makerMany[makers] = much;
            makerFrom[makers] = from;
            makerTo[makers] = to;
            makers++;
            return makers - 1;
        }

        int buy(int load) {
            if (lorries >= LORRIES) {
                return NONE;
            }
            carries[lorries] = load;
            lorries++;
            return lorries - 1;
        }

        void order(int school, int rooms) {
            for (int kind = 0; kind < KINDS; kind++) {
                need[school * KINDS + kind] = rooms * PER_ROOM[kind];
            }
        }

        boolean take(int village, int school, int much) {
            if (gifts >= GIFTS) {
                return false;
            }
            gifts++;
            given[village * SCHOOLS + school] += much;
            return true;
        }

        /** What the makers make in a week comes to the yard. */
        void bring(int week) {
            for (int maker = 0; maker < makers; maker++) {
                if (within(week, makerFrom[maker], makerTo[maker])) {
                    lying[makerKind[maker]] += makerMany[maker];
                }
            }
        }

        void drive(int week) {
            boolean wet = land.isWet(week);
            for (int lorry = 0; lorry < lorries; lorry++) {
                int school = lowestToServe(wet);
                if (school == NONE) {
                    return;
                }
                unload(school, carries[lorry]);
            }
        }

        void raise(int week) {
            for (int school = 0; school < schools.size; school++) {
                if (schools.built[school] == NONE && lowestNeed(school) == NONE && gaveEnough(school, week)) {
                    schools.built[school] = week;
                }
            }
        }

        int lacking(int school, int now) {
            if (schools.built[school] != NONE) {
                return NONE;
            }
            int kind = lowestNeed(school);
            if (kind != NONE) {
                return kind;
            }
            return gaveEnough(school, now) ? NONE : KINDS;
        }

        int lyingInAll() {
            int sum = 0;
            for (int kind = 0; kind < KINDS; kind++) {
                sum += lying[kind];
            }
            return sum;
        }

        private int lowestToServe(boolean wet) {
            for (int school = 0; school < schools.size; school++) {
                boolean cutOff = wet && (schools.remote[school] || land.isShutWet(schools.cell[school]));
                if (!cutOff && canBeServed(school)) {
                    return school;
                }
            }
            return NONE;
        }

        private boolean canBeServed(int school) {
            for (int kind = 0; kind < KINDS; kind++) {
                if (need[school * KINDS + kind] > 0 && lying[kind] > 0) {
                    return true;
                }
            }
            return false;
        }

        private void unload(int school, int load) {
            int left = load;
            for (int kind = 0; kind < KINDS; kind++) {
                int part = Math.min(left, Math.min(lying[kind], need[school * KINDS + kind]));
                lying[kind] -= part;
                need[school * KINDS + kind] -= part;
                left -= part;
            }
        }

        private int lowestNeed(int school) {
            for (int kind = 0; kind < KINDS; kind++) {
                if (need[school * KINDS + kind] > 0) {
                    return kind;
                }
            }
            return NONE;
        }

        private boolean gaveEnough(int school, int week) {
            int year = week / YEAR;
            for (int village = 0; village < folk.size; village++) {
                if (!promised[village * SCHOOLS + school]) {
                    continue;
                }
                code.spell(folk.childrenOf(village, year, week), folk.tongue[village], 0, 0);
                int due = code.worthOf(VALUED, folk.shire[village], year, week, Code.BOTH);
                if (given[village * SCHOOLS + school] < due) {
                    return false;
                }
            }
            return true;
        }
    }

    /** Who sits where in a week, as known in another. */
    private static final class Seats {
        private static final int UNSEEN = -1;
        private static final int BEGIN = -2;

        private final Land land;
        private final Code code;
        private final Folk folk;
        private final Schools schools;
        /** The walk of each village to each school within its reach, else NONE. */
        private final int[] way = new int[VILLAGES * SCHOOLS];
        private final int[] seat = new int[VILLAGES * SCHOOLS];
        private final int[] over = new int[VILLAGES];
        private final int[] left = new int[SCHOOLS];
        private final boolean[] strict = new boolean[SCHOOLS];
        /** For the search of a chain of moves: where each village and school was come upon from. */
        private final int[] villageFrom = new int[VILLAGES];
        private final int[] schoolFrom = new int[SCHOOLS];
        private final int[] queue = new int[VILLAGES];

        Seats(Land ofLand, Code laws, Folk ofFolk, Schools ofSchools) {
            land = ofLand;
            code = laws;
            folk = ofFolk;
            schools = ofSchools;
        }

        /** Places left, children over, and ways, before anyone is seated. */
        void survey(int week, int q) {
            int year = week / YEAR;
            for (int school = 0; school < schools.size; school++) {
                left[school] = schools.classesOf(school, week, q) * schools.headsOf(school, week, q);
                code.spell(0, 0, 0, 0);
                strict[school] = code.worthOf(TONGUED, schools.shire[school], year, q, Code.BOTH) != 0;
            }
            for (int village = 0; village < folk.size; village++) {
                over[village] = folk.childrenOf(village, year, q);
                int limit = folk.walkLimit(village, year, q);
                measure(village, limit, land.rowFrom(folk.cell[village], land.isWet(week)));
            }
        }

        /** The villages by their numbers, each to the nearest places. */
        void seatAll() {
            Arrays.fill(seat, 0);
            for (int village = 0; village < folk.size; village++) {
                for (int turn = 0; turn < schools.size && over[village] > 0; turn++) {
                    int school = nearest(village);
                    if (school == NONE) {
                        break;
                    }
                    int moved = Math.min(over[village], left[school]);
                    seat[village * SCHOOLS + school] += moved;
                    left[school] -= moved;
                    over[village] -= moved;
                }
            }
        }

        /** Each chain seats at least one child more, so that there are fewer chains than children. */
        int seatMore() {
            int sum = seatedInAll();
            for (int turn = 0; turn < 100000; turn++) {
                int school = endOfChain();
                if (school == NONE) {
                    break;
                }
                sum += moveAlong(school);
            }
            return sum;
        }

        int seatedOf(int village) {
            int sum = 0;
            for (int school = 0; school < schools.size; school++) {
                sum += seat[village * SCHOOLS + school];
            }
            return sum;
        }

        int standing() {
            int sum = 0;
            for (int village = 0; village < folk.size; village++) {
                sum += over[village];
            }
            return sum;
        }

        private int seatedInAll() {
            int sum = 0;
            for (int village = 0; village < folk.size; village++) {
                sum += seatedOf(village);
            }
            return sum;
        }

        private void measure(int village, int limit, int[] row) {
            for (int school = 0; school < schools.size; school++) {
                int walked = row[schools.cell[school]];
                boolean spoken = !strict[school] || (schools.tongues[school] >> folk.tongue[village] & 1) == 1;
                boolean near = walked < Land.FAR && walked <= limit && spoken;
                way[village * SCHOOLS + school] = near ? walked : NONE;
            }
        }

        private int nearest(int village) {
            int best = NONE;
            int least = Land.FAR;
            for (int school = 0; school < schools.size; school++) {
                int walked = way[village * SCHOOLS + school];
                if (walked != NONE && left[school] > 0 && walked < least) {
                    best = school;
                    least = walked;
                }
            }
            return best;
        }

        /** Breadth first from villages with children over to a school with places left. */
        private int endOfChain() {
            Arrays.fill(schoolFrom, UNSEEN);
            int last = 0;
            for (int village = 0; village < folk.size; village++) {
                villageFrom[village] = UNSEEN;
                if (over[village] > 0) {
                    villageFrom[village] = BEGIN;
                    queue[last] = village;
                    last++;
                }
            }
            for (int first = 0; first < last && first < VILLAGES; first++) {
                int village = queue[first];
                for (int school = 0; school < schools.size; school++) {
                    if (way[village * SCHOOLS + school] == NONE || schoolFrom[school] != UNSEEN) {
                        continue;
                    }
                    schoolFrom[school] = village;
                    if (left[school] > 0) {
                        return school;
                    }
                    last = queueThoseIn(school, last);
                }
            }
            return NONE;
        }

        private int queueThoseIn(int school, int ahead) {
            int last = ahead;
            for (int village = 0; village < folk.size; village++) {
                boolean fresh = villageFrom[village] == UNSEEN && seat[village * SCHOOLS + school] > 0;
                if (fresh && last < VILLAGES) {
                    villageFrom[village] = school;
                    queue[last] = village;
                    last++;
                }
            }
            return last;
        }

        /** How many more are seated. */
        private int moveAlong(int end) {
            int moved = left[end];
            int school = end;
            for (int step = 0; step < SCHOOLS && school >= 0 && schoolFrom[school] >= 0; step++) {
                int village = schoolFrom[school];
                int before = villageFrom[village];
                moved = Math.min(moved, before < 0 ? over[village] : seat[village * SCHOOLS + before]);
                school = before;
            }
            left[end] -= moved;
            school = end;
            for (int step = 0; step < SCHOOLS && school >= 0 && schoolFrom[school] >= 0; step++) {
                int village = schoolFrom[school];
                int before = villageFrom[village];
                seat[village * SCHOOLS + school] += moved;
                if (before < 0) {
                    over[village] -= moved;
                } else {
                    seat[village * SCHOOLS + before] -= moved;
                }
                school = before;
            }
            return moved;
        }
    }

    /** The teachers, and where they are sent. */
    private static final class Staff {
        private static final int UNASKED = -1;

        private final Code code;
        private final Schools schools;
        private int size;
        private final int[] trained = new int[TEACHERS];
        private final int[] rank = new int[TEACHERS];
        private final int[] tongues = new int[TEACHERS];
        private final int[] leaves = new int[TEACHERS];
        private final int[] told = new int[TEACHERS];
        private final int[] post = new int[TEACHERS];
        private final int[] without = new int[SCHOOLS];
        /** For each shire the tongues, as bits, that the teacher at hand may teach there. */
        private final int[] lawful = new int[LAST_SHIRE + 1];

        Staff(Code laws, Schools ofSchools) {
            code = laws;
            schools = ofSchools;
        }

        int enrol(int inYear, int ofRank, int ofTongues, int tillYear, int now) {
            if (size >= TEACHERS) {
                return NONE;
            }
            trained[size] = inYear;
            rank[size] = ofRank;
            tongues[size] = ofTongues;
            leaves[size] = tillYear;
            told[size] = now;
            size++;
            return size - 1;
        }

        void assign(int week, int q) {
            int year = week / YEAR;
            for (int school = 0; school < schools.size; school++) {
                without[school] = schools.classesOf(school, week, q);
            }
            for (int teacher = 0; teacher < size; teacher++) {
                post[teacher] = NONE;
                if (told[teacher] <= q && trained[teacher] < year && year < leaves[teacher]) {
                    post[teacher] = lowestFor(teacher, year, q);
                }
                if (post[teacher] != NONE) {
                    without[post[teacher]]--;
                }
            }
        }

        int allWithout() {
            int sum = 0;
            for (int school = 0; school < schools.size; school++) {
                sum += without[school];
            }
            return sum;
        }

        private int lowestFor(int teacher, int year, int q) {
            Arrays.fill(lawful, UNASKED);
            for (int school = 0; school < schools.size; school++) {
                int shire = schools.shire[school];
                if (without[school] <= 0 || !within(shire, 0, LAST_SHIRE)) {
                    continue;
                }
                if (lawful[shire] == UNASKED) {
                    lawful[shire] = tonguesIn(teacher, shire, year, q);
                }
                if ((lawful[shire] & schools.tongues[school]) != 0) {
                    return school;
                }
            }
            return NONE;
        }

        private int tonguesIn(int teacher, int shire, int year, int q) {
            int bits = 0;
            for (int tongue = 0; tongue <= LAST_TONGUE; tongue++) {
                if ((tongues[teacher] >> tongue & 1) == 1) {
                    code.spell(0, tongue, year - trained[teacher], rank[teacher]);
                    if (code.worthOf(TAUGHT, shire, year, q, Code.BOTH) != 0) {
                        bits |= 1 << tongue;
                    }
                }
            }
            return bits;
        }
    }

    /** The roofs, the winds, and whose roofs were taken. */
    private static final class Roofs {
        private final Schools schools;
        private final int[] holds = new int[PATTERNS];
        private final boolean[] on = new boolean[SCHOOLS];
        private final int[] pattern = new int[SCHOOLS];
        private final int[] maker = new int[SCHOOLS];
        private final int[] since = new int[SCHOOLS];
        private final int[] laidBy = new int[MAKERS];
        private final int[] takenOf = new int[MAKERS];
        private int laid;
        private int winds;

        Roofs(Schools ofSchools) {
            schools = ofSchools;
            Arrays.fill(holds, 100);
        }

        boolean lay(int school, int ofPattern, int byMaker, int now) {
            if (laid >= ROOFS) {
                return false;
            }
            laid++;
            laidBy[byMaker]++;
            on[school] = true;
            pattern[school] = ofPattern;
            maker[school] = byMaker;
            since[school] = now;
            return true;
        }

        int blow(int shire, int strong, int now) {
            if (winds >= WINDS) {
                return NONE;
            }
            winds++;
            int taken = 0;
            for (int school = 0; school < schools.size; school++) {
                if (on[school] && schools.shire[school] == shire && strengthOf(school, now) < strong) {
                    on[school] = false;
                    takenOf[maker[school]]++;
                    taken++;
                }
            }
            return taken;
        }

        int worstMaker(int makers) {
            int worst = NONE;
            for (int k = 0; k < makers && k < MAKERS; k++) {
                boolean worse = worst == NONE ? takenOf[k] > 0 : takenOf[k] * laidBy[worst] > takenOf[worst] * laidBy[k];
                if (worse) {
                    worst = k;
                }
            }
            return worst;
        }

        private int strengthOf(int school, int now) {
            return holds[pattern[school]] - (now - since[school]) / 26;
        }
    }

    /** Cells where a school could stand, which villages they serve, and the rows by which they can be built. */
    private static final class Sites {
        private final Land land;
        private final Folk folk;
        private int size;
        private final int[] cell = new int[SITES];
        /** For each village the sites that are near enough, as bits. */
        private final int[] near = new int[VILLAGES];
        private int rows;
        private final int[] built = new int[ROWS * ROW_YEARS];

        Sites(Land ofLand, Folk ofFolk) {
            land = ofLand;
            folk = ofFolk;
        }

        int mark(int ofCell) {
            if (size >= SITES) {
                return NONE;
            }
            cell[size] = ofCell;
            size++;
            return size - 1;
        }

        int all() {
            return (1 << size) - 1;
        }

        int add(int a, int b) {
            if (rows >= ROWS) {
                return NONE;
            }
            for (int year = 0; year < ROW_YEARS; year++) {
                int number = (year < 4 ? a : b) >> 24 - year % 4 * 8 & 255;
                if (number > 9) {
                    return NONE;
                }
                built[rows * ROW_YEARS + year] = number;
            }
            rows++;
            return rows - 1;
        }

        void look(int villages, int week, int now) {
            boolean wet = land.isWet(week);
            for (int village = 0; village < folk.size; village++) {
                near[village] = 0;
                if ((villages >> village & 1) == 1) {
                    int limit = folk.walkLimit(village, week / YEAR, now);
                    near[village] = nearBits(land.rowFrom(folk.cell[village], wet), limit);
                }
            }
        }

        int lowestWithout(int set, int villages) {
            for (int village = 0; village < folk.size; village++) {
                if ((villages >> village & 1) == 1 && (near[village] & set) == 0) {
                    return village;
                }
            }
            return NONE;
        }

        /** Of sets of one size the one with the lowest bit in which they differ is first. */
        int fewest(int allowed, int villages) {
            int best = NONE;
            for (int set = 0; set <= allowed; set++) {
                if ((set & ~allowed) != 0 || lowestWithout(set, villages) != NONE) {
                    continue;
                }
                int differ = set ^ best;
                int more = Integer.bitCount(set) - Integer.bitCount(best);
                if (best == NONE || more < 0 || more == 0 && (set & differ & -differ) != 0) {
                    best = set;
                }
            }
            return best;
        }

        /** The year by whose end even the slowest row has built the set. */
        int worstYear(int set) {
            if (set == NONE || rows == 0) {
                return NONE;
            }
            int worst = 0;
            for (int number = 0; number < rows; number++) {
                int year = yearOf(number, Integer.bitCount(set));
                if (year == NONE) {
                    return NONE;
                }
                worst = Math.max(worst, year);
            }
            return worst;
        }

        private int yearOf(int number, int wanted) {
            int sum = 0;
            for (int year = 0; year < ROW_YEARS; year++) {
                sum += built[number * ROW_YEARS + year];
                if (sum >= wanted) {
                    return year;
                }
            }
            return NONE;
        }

        private int nearBits(int[] row, int limit) {
            int bits = 0;
            for (int k = 0; k < size; k++) {
                int walked = row[cell[k]];
                if (walked < Land.FAR && walked <= limit) {
                    bits |= 1 << k;
                }
            }
            return bits;
        }
    }

    /** Lenders, bills, and what can be paid of them. */
    private static final class Purse {
        private final Code code;
        private int lenders;
        private final int[] coin = new int[LENDERS];
        private int bills;
        private final int[] owed = new int[SORTS];
        /** For each sort the lenders that may pay for it, as bits. */
        private final int[] payers = new int[SORTS];

        Purse(Code laws) {
            code = laws;
        }

        int open(int ofCoin) {
            if (lenders >= LENDERS) {
                return NONE;
            }
            coin[lenders] = ofCoin;
            lenders++;
            return lenders - 1;
        }

        boolean owe(int sort, int much) {
            if (bills >= BILLS) {
                return false;
            }
            bills++;
            owed[sort] += much;
            return true;
        }

        void ask(int year, int now) {
            for (int sort = 0; sort < SORTS; sort++) {
                payers[sort] = 0;
                for (int lender = 0; lender < lenders; lender++) {
                    code.spell(lender, 0, sort, 0);
                    if (code.worthOf(COINED, 0, year, now, Code.BOTH) != 0) {
                        payers[sort] |= 1 << lender;
                    }
                }
            }
        }

        /**
         * The most that flows is the least that a cut lets through: some lenders' coin,
         * and all that is owed for sorts that one of the other lenders may pay for.
         */
        int mostPaid() {
            int least = NONE;
            for (int cut = 0; cut < 1 << lenders; cut++) {
                int through = 0;
                for (int lender = 0; lender < lenders; lender++) {
                    through += (cut >> lender & 1) == 1 ? coin[lender] : 0;
                }
                for (int sort = 0; sort < SORTS; sort++) {
                    through += (payers[sort] & ~cut) != 0 ? owed[sort] : 0;
                }
                least = least == NONE ? through : Math.min(least, through);
            }
            return least;
        }

        int paidByNobody() {
            int sum = 0;
            for (int sort = 0; sort < SORTS; sort++) {
                sum += payers[sort] == 0 ? owed[sort] : 0;
            }
            return sum;
        }
    }
}
