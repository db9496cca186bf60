/** Knives that turn so often, a hand that strays, and a board with somebody on it. */
public final class KnifeBoard {
    public static final int UNKNOWN = -1, OUTSIDE = -2, STATE = -3, FULL = -4, NONE = -9;
    public static final long LOST = Long.MIN_VALUE;

    private static final int NOTHING_THERE = 1, OTHER_SORT = 2, NO_SUCH_INDEX = 3, SIZE_BELOW_0 = 4;
    private static final int FIRST_FAULT_BASE = -100;

    private static final int ROUND = 24, LAST_START = 23, MOST_TURN = 24, MOST_PACE = 9, MOST_BAND = 5;
    private static final int MOST_KNIVES = 6, MOST_FEET = 40, MOST_FEET_IN_SET = 31;
    private static final int POINT = 0, BUTT = 1, FLAT = 2, GLANCES = 3;

    private static final int ROW_START = 0, ROW_UP = 1, ROW_ACROSS = 2;
    private static final int STRAY = 2, MOST_WEIGHT = 9, MOST_STAGE = 9, MOST_THROW = 9999;
    private static final int HAND_SHORT = 20, HAND_WITH_TIRES = 23, HAND_PART = 7;

    private static final int WOOD = 0, HARD = 1, HER = 2, HER_IN = 3, BESIDE = -1;
    // sets of letters: bit k for letter k
    private static final int WOOD_SET = 1 << WOOD, HURT_OUT_SET = 1 << HER, HURT_IN_SET = 1 << HER | 1 << HER_IN;
    private static final int MOST_SIDE = 6, MOST_CELLS = 36, LAST_CELL_IN_SET = 30, BOARD_HEAD = 3;

    private static final int MOST_ORDER = 6, THOUSAND = 1000, MILLION = 1000000;
    private static final int MOST_TICKS = 60, LAST_FROM = 9999, LAST_TICK = 99999, TICKS_TRIED = 1000;
    private static final int MOST_MARKS = 10, WAYS = 576, FARTHEST_CHALK = 99, MOST_CHALK = 40;
    private static final int SHEETS = 4, MOST_IN_SHEET = 80, BYTES = 0, SHORTS = 1, INTS = 2;

    private final Knife[] knives = new Knife[MOST_KNIVES];
    private int knifeCount = 0;
    private final Hand theHand = new Hand();
    private final Board theBoard = new Board();
    private final Order theOrder = new Order();
    private final Marks marks = new Marks();
    private final Sheet[] sheets = {new Sheet(), new Sheet(), new Sheet(), new Sheet()};
    private final int[] taken = new int[MOST_IN_SHEET];
    private final boolean[] harmless = new boolean[8];
    private final Trace theTrace = new Trace();
    private int theFault = 0;

    public KnifeBoard() {
    }

    // ---- 1 knives

    public int knife(int kind, int pace, int turn, int band) {
        if (!within(kind, 0, 2) || !within(pace, 1, MOST_PACE)) return OUTSIDE;
        if (!within(turn, 1, MOST_TURN) || !within(band, 0, MOST_BAND)) return OUTSIDE;
        if (knifeCount >= MOST_KNIVES) return FULL;
        int number = knifeCount;
        if (kind == 0) knives[number] = new Knife(number, pace, turn, band, band);
        else if (kind == 1) knives[number] = new Hatchet(number, pace, turn, band);
        else knives[number] = new Twin(number, pace, turn, band);
        knifeCount++;
        return number;
    }

    public int ofKnife(int k, int what) {
        Knife knife = knifeAt(k);
        if (knife == null) return UNKNOWN;
        switch (what) {
            case 0: return knife.kindNumber();
            case 1: return knife.pace;
            case 2: return knife.turn;
            case 3: return knife.band;
            case 4: return knife.width;
            default: return OUTSIDE;
        }
    }

    public long lies(int k, int start, int f, int which) {
        Knife knife = knifeAt(k);
        if (knife == null || !isThrow(start, f) || !within(which, 0, 1)) return LOST;
        return share(knife.roundBy(start, knife.turn, f), knife.pace, which);
    }

    public int comes(int k, int start, int f) {
        Knife knife = knifeAt(k);
        if (knife == null) return UNKNOWN;
        if (!isThrow(start, f)) return OUTSIDE;
        return knife.cameBy(start, knife.turn, f);
    }

    public int sticks(int k, int start) {
        Knife knife = knifeAt(k);
        if (knife == null) return UNKNOWN;
        if (!within(start, 0, LAST_START)) return OUTSIDE;
        int set = 0;
        for (int f = 1; f <= MOST_FEET_IN_SET; f++) {
            if (knife.holdsFast(start, f)) set |= 1 << (f - 1);
        }
        return set;
    }

    // ---- 2 the hand

    public int hand(int sheet, int sort, int i, int n) {
        int refused = takeText(sheet, sort, i, n);
        if (refused != 0) return refused;
        int place = Hand.firstFault(taken, n);
        if (place != NONE) return FIRST_FAULT_BASE - place;
        theHand.read(taken, n);
        return 1;
    }

    public int weight(int row, int d, int stage) {
        if (!within(row, ROW_START, ROW_ACROSS)) return UNKNOWN;
        if (!within(d, -STRAY, STRAY) || !isStage(stage)) return OUTSIDE;
        if (!theHand.told) return STATE;
        return theHand.weighs(row, d, stage);
    }

    public int stage(int n) {
        if (!within(n, 0, MOST_THROW)) return OUTSIDE;
        if (!theHand.told) return STATE;
        return theHand.stageOf(n);
    }

    public long likely(int k, int start, int f, int stage, int which) {
        Knife knife = knifeAt(k);
        if (knife == null || !isThrow(start, f) || !isStage(stage)) return LOST;
        if (!within(which, 0, 1) || !theHand.told) return LOST;
        return share(stickWeight(knife, start, f, stage), theHand.sumOf(ROW_START, stage), which);
    }

    public int best(int k, int stage, int what) {
        Knife knife = knifeAt(k);
        if (knife == null) return UNKNOWN;
        if (!isStage(stage) || !within(what, 0, 1)) return OUTSIDE;
        if (!theHand.told) return STATE;
        int most = -1, feet = 0, meant = 0;
        for (int f = 1; f <= MOST_FEET; f++) {
            for (int start = 0; start <= LAST_START; start++) {
                int weight = stickWeight(knife, start, f, stage);
                if (weight > most) {
                    most = weight;
                    feet = f;
                    meant = start;
                }
            }
        }
        return what == 0 ? feet : meant;
    }

    // ---- 3 the board

    public int board(int sheet, int sort, int i, int n) {
        int refused = takeText(sheet, sort, i, n);
        if (refused != 0) return refused;
        int place = Board.firstFault(taken, n);
        if (place != NONE) return FIRST_FAULT_BASE - place;
        theBoard.read(taken, n);
        return theBoard.count();
    }

    public int ofCell(int c) {
        if (!theBoard.knows(c)) return UNKNOWN;
        return theBoard.letterAt(theBoard.rowOf(c), theBoard.columnOf(c), 0);
    }

    public long hurts(int c, int stage, boolean in, int which) {
        if (!theBoard.knows(c) || !isStage(stage) || !within(which, 0, 1) || !theHand.told) return LOST;
        return share(weightTo(in ? HURT_IN_SET : HURT_OUT_SET, c, stage, 0), weightOfAll(stage), which);
    }

    public long holds(int k, int start, int f, int c, int stage, int which) {
        Knife knife = knifeAt(k);
        if (knife == null || !theBoard.knows(c)) return LOST;
        if (!isThrow(start, f) || !isStage(stage) || !within(which, 0, 1) || !theHand.told) return LOST;
        long upper = (long) stickWeight(knife, start, f, stage) * weightTo(WOOD_SET, c, stage, 0);
        long lower = (long) theHand.sumOf(ROW_START, stage) * weightOfAll(stage);
        return share(upper, lower, which);
    }

    // ---- 4 rules, orders

    public int allowed(int m, int stage) {
        int refused = refusesRule(m, stage);
        if (refused != 0) return refused;
        int set = 0;
        for (int c = 0; c < theBoard.count() && c <= LAST_CELL_IN_SET; c++) {
            if (isAllowed(c, m, stage)) set |= 1 << c;
        }
        return set;
    }

    public int nearest(int m, int stage) {
        int refused = refusesRule(m, stage);
        if (refused != 0) return refused;
        int found = NONE, most = -1;
        for (int c = 0; c < theBoard.count(); c++) {
            int about = theBoard.hersAbout(c);
            if (about > most && isAllowed(c, m, stage)) {
                most = about;
                found = c;
            }
        }
        return found;
    }

    public int order(int first, int sheet, int sort, int i, int n, int q) {
        theFault = 0;
        int refused = refusesSheet(sheet, sort);
        if (refused != 0) return refused;
        if (!within(first, 0, MOST_THROW)) return OUTSIDE;
        refused = takeCells(sheet, sort, i, n);
        if (refused != 0) return refused;
        if (!within(n, 1, MOST_ORDER)) return OUTSIDE;
        refused = refusesCells(n);
        if (refused != 0) return refused;
        if (!within(q, -1, MOST_ORDER - 1)) return UNKNOWN;
        if (!theHand.told) return STATE;
        if (q >= n) return NONE;
        theOrder.begin(taken, n);
        for (int j = 0; j < n; j++) {
            for (int nth = 0; nth < n; nth++) {
                theOrder.setCost(j, nth, millionths(theOrder.sortedCell(j), theHand.stageOf(first + nth)));
            }
        }
        theOrder.weighRests();
        return q < 0 ? theOrder.leastSum() : theOrder.cellThrown(q);
    }

    // ---- 5 the wheel

    public int turned(int c, int q, int tick) {
        if (!theBoard.knows(c)) return UNKNOWN;
        if (!within(q, 1, MOST_TICKS) || !within(tick, 0, LAST_TICK)) return OUTSIDE;
        if (!theBoard.isSquare()) return STATE;
        return theBoard.letterAt(theBoard.rowOf(c), theBoard.columnOf(c), tick / q % 4);
    }

    public int when(int knife, int f, int c, int q, int p, int k, int m, int from) {
        Knife thrown = knifeAt(knife);
        if (thrown == null || !theBoard.knows(c)) return UNKNOWN;
        if (!within(f, 1, MOST_FEET) || !within(q, 1, MOST_TICKS) || !within(p, 1, MOST_TICKS)) return OUTSIDE;
        if (!within(k, 0, p) || !within(m, 0, THOUSAND) || !within(from, 0, LAST_FROM)) return OUTSIDE;
        if (!theHand.told || !theBoard.isSquare()) return STATE;
        seekHarmless(c, m);
        int flight = thrown.flightOf(f);
        for (int t = from; t <= from + TICKS_TRIED; t++) {
            int there = t + flight;
            int breath = there % p < k ? 1 : 0;
            if (harmless[there / q % 4 * 2 + breath]) return t;
        }
        return NONE;
    }

    // ---- 6 marks, chalk

    public int mark(int f, int came) {
        if (!within(f, 1, MOST_FEET) || !within(came, POINT, GLANCES)) return OUTSIDE;
        if (marks.count >= MOST_MARKS) return FULL;
        marks.add(f, came);
        return marks.count - 1;
    }

    public int back(int k) {
        if (!within(k, 0, marks.count)) return OUTSIDE;
        marks.count -= k;
        return marks.count;
    }

    public int guessed(int k, int what) {
        Knife knife = knifeAt(k);
        if (knife == null) return UNKNOWN;
        if (!within(what, 0, 1)) return OUTSIDE;
        marks.seekThrown(knife);
        return what == 0 ? marks.left : marks.firstThrown();
    }

    public int tells(int k, int what) {
        Knife knife = knifeAt(k);
        if (knife == null) return UNKNOWN;
        if (!within(what, 0, 1)) return OUTSIDE;
        marks.seekThrown(knife);
        if (marks.left == 0) return NONE;
        int feet = 0, fewest = WAYS + 1;
        for (int f = 1; f <= MOST_FEET; f++) {
            int worst = marks.leftAtWorst(knife, f);
            if (worst < fewest) {
                fewest = worst;
                feet = f;
            }
        }
        return what == 0 ? feet : fewest;
    }

    public long chalk(int sheet, int sort, int i, int n, int what, int which) {
        theFault = 0;
        if (!takeChalk(sheet, sort, i, n)) return LOST;
        if (!within(what, 0, 3) || !within(which, 0, 1)) return LOST;
        int sum = 0;
        for (int row = 0; row < n; row++) {
            int far = taken[2 * row + what % 2];
            sum += what < 2 ? far : Math.abs(far);
        }
        return share(sum, what < 2 ? n : 1, which);
    }

    public long byChalk(int c, int sheet, int sort, int i, int n, int which) {
        theFault = 0;
        if (!theBoard.knows(c)) return LOST;
        if (!takeChalk(sheet, sort, i, n) || !within(which, 0, 1)) return LOST;
        int hurt = 0;
        for (int row = 0; row < n; row++) {
            int there = theBoard.rowOf(c) - taken[2 * row];
            int across = theBoard.columnOf(c) + taken[2 * row + 1];
            if (theBoard.isOf(HURT_IN_SET, there, across, 0)) hurt++;
        }
        return share(hurt, n, which);
    }

    // ---- 7 sheets, parts

    public int sheet(int k, int sort, int n) {
        theFault = 0;
        int refused = refusesSheet(k, sort);
        if (refused != 0) return refused;
        if (n > MOST_IN_SHEET) return OUTSIDE;
        if (n < 0) return faulted(SIZE_BELOW_0);
        sheets[k].renew(sort, n);
        return 1;
    }

    public int lose(int k) {
        if (!isSheet(k)) return UNKNOWN;
        if (!sheets[k].has) return 0;
        sheets[k].has = false;
        return 1;
    }

    public int put(int k, int i, int v) {
        theFault = 0;
        if (!isSheet(k)) return UNKNOWN;
        Sheet to = sheets[k];
        int found = to.faultOfTaking(to.sort, i, 1);
        if (found != 0) return faulted(found);
        to.store(i, v);
        return 1;
    }

    public long cell(int k, int i, int sort) {
        theFault = 0;
        if (refusesSheet(k, sort) != 0) return LOST;
        if (takeCells(k, sort, i, 1) != 0) return LOST;
        return taken[0];
    }

    public int copy(int k, int i, int other, int j, int n) {
        theFault = 0;
        if (!isSheet(k) || !isSheet(other)) return UNKNOWN;
        Sheet from = sheets[k], to = sheets[other];
        if (!from.has || !to.has) return faulted(NOTHING_THERE);
        if (from.sort != to.sort) return faulted(OTHER_SORT);
        if (n < 0 || !from.reaches(i, n) || !to.reaches(j, n)) return faulted(NO_SUCH_INDEX);
        System.arraycopy(from.cells, i, to.cells, j, n);
        return n;
    }

    public int tell(int k) {
        Knife knife = knifeAt(k);
        return knife == null ? UNKNOWN : knife.telling(theTrace);
    }

    public int whet(int k) {
        Knife knife = knifeAt(k);
        return knife == null ? UNKNOWN : knife.whetting(theTrace);
    }

    public int as(int k, int kind) {
        theFault = 0;
        Knife knife = knifeAt(k);
        if (knife == null) return UNKNOWN;
        if (!within(kind, 0, 2)) return OUTSIDE;
        if (kind == 1 && !(knife instanceof Hatchet)) return faulted(OTHER_SORT);
        if (kind == 2 && !(knife instanceof Twin)) return faulted(OTHER_SORT);
        return 1;
    }

    public int trace() {
        return theTrace.value;
    }

    public int fault() {
        return theFault;
    }

    public int many(int what) {
        switch (what) {
            case 0: return knifeCount;
            case 1: return theBoard.count();
            case 2: return theBoard.high;
            case 3: return theBoard.wide;
            case 4: return marks.count;
            case 5: return theHand.tires;
            default: return OUTSIDE;
        }
    }

    // ---- what the calls share

    private static boolean within(int number, int least, int most) {
        return number >= least && number <= most;
    }

    private static boolean isThrow(int start, int f) {
        return within(start, 0, LAST_START) && within(f, 1, MOST_FEET);
    }

    private static boolean isStage(int stage) {
        return within(stage, 0, MOST_STAGE);
    }

    private static boolean isSheet(int k) {
        return within(k, 0, SHEETS - 1);
    }

    private Knife knifeAt(int k) {
        return within(k, 0, knifeCount - 1) ? knives[k] : null;
    }

    private static long share(long upper, long lower, int which) {
        if (lower <= 0) return LOST;
        long common = commonDivisor(Math.abs(upper), lower);
        if (common <= 0) return LOST;
        return which == 0 ? upper / common : lower / common;
    }

    private static long commonDivisor(long one, long other) {
        long greater = one, less = other;
        // Euclid needs far fewer steps for any long
        for (int step = 0; step < 200 && less != 0; step++) {
            long rest = greater % less;
            greater = less;
            less = rest;
        }
        return greater;
    }

    private int faulted(int number) {
        theFault = number;
        return -10 - number;
    }

    private static int refusesSheet(int k, int sort) {
        if (!isSheet(k)) return UNKNOWN;
        return within(sort, BYTES, INTS) ? 0 : OUTSIDE;
    }

    private int takeText(int sheet, int sort, int i, int n) {
        theFault = 0;
        int refused = refusesSheet(sheet, sort);
        return refused != 0 ? refused : takeCells(sheet, sort, i, n);
    }

    /** Takes n cells of a known sheet to the front of the row taken; n is long, as chalk wants twice an int. */
    private int takeCells(int sheet, int sort, int i, long n) {
        if (!isSheet(sheet)) return UNKNOWN;
        Sheet from = sheets[sheet];
        int found = from.faultOfTaking(sort, i, n);
        if (found != 0) return faulted(found);
        System.arraycopy(from.cells, i, taken, 0, (int) n);
        return 0;
    }

    private boolean takeChalk(int sheet, int sort, int i, int n) {
        if (refusesSheet(sheet, sort) != 0) return false;
        if (takeCells(sheet, sort, i, 2L * n) != 0) return false;
        if (!within(n, 1, MOST_CHALK)) return false;
        for (int at = 0; at < 2 * n; at++) {
            if (!within(taken[at], -FARTHEST_CHALK, FARTHEST_CHALK)) return false;
        }
        return true;
    }

    private int refusesCells(int n) {
        for (int j = 0; j < n; j++) {
            if (!theBoard.knows(taken[j])) return UNKNOWN;
        }
        for (int j = 0; j < n; j++) {
            for (int before = 0; before < j; before++) {
                if (taken[before] == taken[j]) return OUTSIDE;
            }
        }
        return 0;
    }

    private int refusesRule(int m, int stage) {
        if (!within(m, 0, THOUSAND) || !isStage(stage)) return OUTSIDE;
        return theHand.told && theBoard.count() > 0 ? 0 : STATE;
    }

    private int stickWeight(Knife knife, int start, int f, int stage) {
        int sum = 0;
        for (int d = -STRAY; d <= STRAY; d++) {
            if (knife.holdsFast((start + d + ROUND) % ROUND, f)) sum += theHand.weighs(ROW_START, d, stage);
        }
        return sum;
    }

    /** The weights of all ways to stray from a cell by which a throw comes to a letter of a set. */
    private int weightTo(int letters, int c, int stage, int quarters) {
        int row = theBoard.rowOf(c), column = theBoard.columnOf(c);
        int sum = 0;
        for (int up = -STRAY; up <= STRAY; up++) {
            int inRow = 0;
            for (int across = -STRAY; across <= STRAY; across++) {
                if (theBoard.isOf(letters, row - up, column + across, quarters)) {
                    inRow += theHand.weighs(ROW_ACROSS, across, stage);
                }
            }
            sum += inRow * theHand.weighs(ROW_UP, up, stage);
        }
        return sum;
    }

    private int weightOfAll(int stage) {
        return theHand.sumOf(ROW_UP, stage) * theHand.sumOf(ROW_ACROSS, stage);
    }

    private boolean isAtMost(int m, int weight, int stage) {
        return (long) weight * THOUSAND <= (long) m * weightOfAll(stage);
    }

    private boolean isAllowed(int c, int m, int stage) {
        if (theBoard.letterAt(theBoard.rowOf(c), theBoard.columnOf(c), 0) != WOOD) return false;
        // whatever hurts as she breathes out hurts as she breathes in, too
        return isAtMost(m, weightTo(HURT_IN_SET, c, stage, 0), stage);
    }

    private int millionths(int c, int stage) {
        int all = weightOfAll(stage);
        if (all <= 0) return 0;
        return (int) ((long) weightTo(HURT_IN_SET, c, stage, 0) * MILLION / all);
    }

    /** For each quarter, out of breath and in: whether a throw hurts by m thousandths at most. */
    private void seekHarmless(int c, int m) {
        for (int quarters = 0; quarters < 4; quarters++) {
            harmless[2 * quarters] = isAtMost(m, weightTo(HURT_OUT_SET, c, 0, quarters), 0);
            harmless[2 * quarters + 1] = isAtMost(m, weightTo(HURT_IN_SET, c, 0, quarters), 0);
        }
    }

    /** The row of numbers that bodies leave. */
    private static final class Trace {
        int value = 0;

        void leave(int number) {
            value = 31 * value + number;
        }
    }

    private static class Knife {
        final int number, pace, turn, band, width;
        // how it comes, by how far it lies round in paces of a 24th
        private final int[] cameAt = new int[ROUND * MOST_PACE];

        Knife(int number, int pace, int turn, int band, int width) {
            this.number = number;
            this.pace = Math.max(1, Math.min(MOST_PACE, pace));
            this.turn = turn;
            this.band = band;
            this.width = width;
            for (int at = 0; at < ROUND * this.pace; at++) cameAt[at] = cameLying(at, this.pace, width);
        }

        private static int cameLying(int at, int pace, int width) {
            if (Math.min(at, ROUND * pace - at) <= width * pace) return POINT;
            if (Math.abs(at - 12 * pace) <= width * pace) return BUTT;
            int fromFlat = Math.min(Math.abs(at - 6 * pace), Math.abs(at - 18 * pace));
            return fromFlat <= 2 * pace ? FLAT : GLANCES;
        }

        /** How far round it lies, in paces of a 24th, so that it is a whole number. */
        int roundBy(int start, int byTurn, int f) {
            return Math.floorMod(start * pace + byTurn * f, ROUND * pace);
        }

        int cameBy(int start, int byTurn, int f) {
            return cameAt[roundBy(start, byTurn, f)];
        }

        boolean holdsFast(int start, int f) {
            return sticksSo(cameBy(start, turn, f));
        }

        int flightOf(int f) {
            return (f + pace - 1) / pace;
        }

        boolean sticksSo(int came) {
            return came == POINT;
        }

        int kindNumber() {
            return 0;
        }

        int telling(Trace trace) {
            return tellingOfKnife(trace);
        }

        final int tellingOfKnife(Trace trace) {
            trace.leave(1);
            return pace;
        }

        int whetting(Trace trace) {
            trace.leave(4);
            return number;
        }
    }

    private static class Hatchet extends Knife {
        Hatchet(int number, int pace, int turn, int band) {
            super(number, pace, turn, band, band + 1);
        }

        int kindNumber() {
            return 1;
        }

        int telling(Trace trace) {
            trace.leave(2);
            return tellingOfKnife(trace) + 100;
        }
    }

    /** A DOUBLE: its name is a type's box in Java, so it has another here. */
    private static final class Twin extends Hatchet {
        Twin(int number, int pace, int turn, int band) {
            super(number, pace, turn, band);
        }

        boolean sticksSo(int came) {
            return came == POINT || came == BUTT;
        }

        int kindNumber() {
            return 2;
        }

        int telling(Trace trace) {
            trace.leave(3);
            int asHatchet = super.telling(trace);
            return asHatchet + tellingOfKnife(trace);
        }

        int whetting(Trace trace) {
            trace.leave(5);
            return 20;
        }
    }

    private static final class Hand {
        private static final char[] LETTERS = {'h', 'u', 'a', 't'};
        private final int[] weights = new int[15];
        boolean told = false;
        int tires = 0;

        /** The place of the first fault of n codes; NONE, if they are a whole text. */
        static int firstFault(int[] codes, int n) {
            for (int place = 0; place < n; place++) {
                if (!goesOn(codes, place)) return place;
            }
            return n == HAND_SHORT || n == HAND_WITH_TIRES ? NONE : n;
        }

        private static boolean goesOn(int[] codes, int place) {
            if (place >= HAND_WITH_TIRES || place >= codes.length) return false;
            int code = codes[place], part = place / HAND_PART, at = place % HAND_PART;
            if (at == 0) return code == LETTERS[part];
            if (at == HAND_PART - 1) return code == ';';
            if (part == 3) return within(code, '1', '9');
            if (!within(code, '0', '9')) return false;
            return at < 5 || code != '0' || !areZeros(codes, place - 4, place);
        }

        private static boolean areZeros(int[] codes, int from, int to) {
            for (int at = Math.max(0, from); at < to && at < codes.length; at++) {
                if (codes[at] != '0') return false;
            }
            return true;
        }

        void read(int[] codes, int n) {
            if (n < HAND_SHORT || codes.length < HAND_WITH_TIRES) return;
            for (int row = 0; row < 3; row++) {
                for (int at = 0; at < 5; at++) weights[5 * row + at] = codes[HAND_PART * row + 1 + at] - '0';
            }
            tires = n == HAND_WITH_TIRES ? codes[HAND_WITH_TIRES - 1] - '0' : 0;
            told = true;
        }

        int weighs(int row, int d, int stage) {
            int weight = weights[5 * row + d + STRAY];
            return d == 0 ? weight : Math.min(MOST_WEIGHT, weight + stage);
        }

        int sumOf(int row, int stage) {
            int sum = 0;
            for (int d = -STRAY; d <= STRAY; d++) sum += weighs(row, d, stage);
            return sum;
        }

        int stageOf(int nth) {
            return tires < 1 ? 0 : Math.min(MOST_STAGE, nth / tires);
        }
    }

    private static final class Board {
        private final int[] letters = new int[MOST_CELLS];
        int high = 0, wide = 0;

        /** The place of the first fault of n codes; NONE, if they are a whole text. */
        static int firstFault(int[] codes, int n) {
            for (int place = 0; place < n; place++) {
                if (!goesOn(codes, place)) return place;
            }
            if (n < BOARD_HEAD) return n;
            return n == BOARD_HEAD + (codes[1] - '0') * (codes[2] - '0' + 1) ? NONE : n;
        }

        private static boolean goesOn(int[] codes, int place) {
            if (place >= codes.length) return false;
            int code = codes[place];
            if (place == 0) return code == 'b';
            if (place < BOARD_HEAD) return within(code, '1', '0' + MOST_SIDE);
            int rowLength = codes[2] - '0' + 1;
            if (rowLength < 2) return false;
            int row = (place - BOARD_HEAD) / rowLength, at = (place - BOARD_HEAD) % rowLength;
            if (row >= codes[1] - '0') return false;
            return at == 0 ? code == ';' : letterOf(code) != BESIDE;
        }

        private static int letterOf(int code) {
            switch (code) {
                case 'w': return WOOD;
                case 'k': return HARD;
                case 'x': return HER;
                case 'y': return HER_IN;
                default: return BESIDE;
            }
        }

        void read(int[] codes, int n) {
            if (n < BOARD_HEAD || n > codes.length) return;
            high = codes[1] - '0';
            wide = codes[2] - '0';
            int cell = 0;
            for (int place = BOARD_HEAD; place < n; place++) {
                if (codes[place] != ';' && cell < MOST_CELLS) letters[cell++] = letterOf(codes[place]);
            }
        }

        int count() {
            return high * wide;
        }

        boolean knows(int c) {
            return within(c, 0, count() - 1);
        }

        boolean isSquare() {
            return high == wide;
        }

        int rowOf(int c) {
            return wide < 1 ? 0 : c / wide;
        }

        int columnOf(int c) {
            return wide < 1 ? 0 : c % wide;
        }

        /** What is seen at a place of the room behind so many quarters to the right. */
        int letterAt(int row, int column, int quarters) {
            if (!within(row, 0, high - 1) || !within(column, 0, wide - 1)) return BESIDE;
            int fromRow = row, fromColumn = column;
            for (int quarter = 0; quarter < quarters; quarter++) {
                int before = fromRow;
                fromRow = high - 1 - fromColumn;
                fromColumn = before;
            }
            int cell = fromRow * wide + fromColumn;
            return knows(cell) ? letters[cell] : BESIDE;
        }

        boolean isOf(int set, int row, int column, int quarters) {
            int letter = letterAt(row, column, quarters);
            return letter != BESIDE && (set >> letter & 1) == 1;
        }

        int hersAbout(int c) {
            int row = rowOf(c), column = columnOf(c);
            int sum = 0;
            for (int down = -1; down <= 1; down++) {
                for (int across = -1; across <= 1; across++) {
                    boolean itself = down == 0 && across == 0;
                    if (!itself && isOf(HURT_IN_SET, row + down, column + across, 0)) sum++;
                }
            }
            return sum;
        }
    }

    /** Seeks the order of up to six cells that costs least, by sets of cells thrown at already. */
    private static final class Order {
        private final int[] cells = new int[MOST_ORDER];
        private final int[] costs = new int[MOST_ORDER * MOST_ORDER];
        // by a set of those thrown at already: the least that the others can cost
        private final int[] rests = new int[1 << MOST_ORDER];
        private int size = 0;

        /** Sorts, so that the first order found is the first as a row. */
        void begin(int[] row, int n) {
            size = Math.max(0, Math.min(Math.min(n, MOST_ORDER), row.length));
            for (int j = 0; j < size; j++) {
                int at = j;
                while (at > 0 && cells[at - 1] > row[j]) {
                    cells[at] = cells[at - 1];
                    at--;
                }
                cells[at] = row[j];
            }
        }

        int sortedCell(int j) {
            return cells[j];
        }

        void setCost(int j, int nth, int cost) {
            costs[MOST_ORDER * j + nth] = cost;
        }

        void weighRests() {
            int all = (1 << size) - 1;
            rests[all] = 0;
            for (int thrown = all - 1; thrown >= 0; thrown--) rests[thrown] = costBy(thrown, nextOf(thrown));
        }

        int leastSum() {
            return rests[0];
        }

        int cellThrown(int q) {
            int thrown = 0, next = 0;
            for (int nth = 0; nth <= q && nth < size; nth++) {
                next = nextOf(thrown);
                thrown |= 1 << next;
            }
            return cells[next];
        }

        /** The first cell by which the rest costs least, of a set that is not all. */
        private int nextOf(int thrown) {
            int found = -1;
            for (int j = 0; j < size; j++) {
                if ((thrown >> j & 1) != 0) continue;
                if (found < 0 || costBy(thrown, j) < costBy(thrown, found)) found = j;
            }
            return Math.max(0, found);
        }

        private int costBy(int thrown, int j) {
            return costs[MOST_ORDER * j + Integer.bitCount(thrown)] + rests[thrown | 1 << j];
        }
    }

    /** The marks, and the ways to throw by which they would all be so. */
    private static final class Marks {
        private final int[] feet = new int[MOST_MARKS];
        private final int[] came = new int[MOST_MARKS];
        int count = 0;
        private final int[] starts = new int[WAYS];
        private final int[] turns = new int[WAYS];
        private final int[] leftBy = new int[4];
        int left = 0;

        void add(int f, int how) {
            if (!within(count, 0, MOST_MARKS - 1)) return;
            feet[count] = f;
            came[count] = how;
            count++;
        }

        void seekThrown(Knife knife) {
            left = 0;
            for (int start = 0; start <= LAST_START; start++) {
                for (int turn = 1; turn <= MOST_TURN; turn++) {
                    if (left < WAYS && isSo(knife, start, turn)) {
                        starts[left] = start;
                        turns[left] = turn;
                        left++;
                    }
                }
            }
        }

        private boolean isSo(Knife knife, int start, int turn) {
            for (int m = 0; m < count; m++) {
                if (knife.cameBy(start, turn, feet[m]) != came[m]) return false;
            }
            return true;
        }

        int firstThrown() {
            return left == 0 ? NONE : 100 * starts[0] + turns[0];
        }

        int leftAtWorst(Knife knife, int f) {
            for (int how = POINT; how <= GLANCES; how++) leftBy[how] = 0;
            for (int way = 0; way < left; way++) leftBy[knife.cameBy(starts[way], turns[way], f)]++;
            return Math.max(Math.max(leftBy[POINT], leftBy[BUTT]), Math.max(leftBy[FLAT], leftBy[GLANCES]));
        }
    }

    private static final class Sheet {
        final int[] cells = new int[MOST_IN_SHEET];
        boolean has = false;
        int sort = BYTES;
        private int length = 0;

        void renew(int newSort, int n) {
            has = true;
            sort = newSort;
            length = Math.max(0, Math.min(n, MOST_IN_SHEET));
            for (int i = 0; i < length; i++) cells[i] = 0;
        }

        /** The FAULT of taking n cells from i on as a row of a sort; 0: none. */
        int faultOfTaking(int asSort, int i, long n) {
            if (has && sort != asSort) return OTHER_SORT;
            if (!has) return NOTHING_THERE;
            if (n < 0) return SIZE_BELOW_0;
            return reaches(i, n) ? 0 : NO_SUCH_INDEX;
        }

        boolean reaches(int i, long n) {
            return within(i, 0, length) && n <= length - i;
        }

        void store(int i, int v) {
            if (!within(i, 0, length - 1)) return;
            if (sort == BYTES) cells[i] = (byte) v;
            else if (sort == SHORTS) cells[i] = (short) v;
            else cells[i] = v;
        }
    }
}
