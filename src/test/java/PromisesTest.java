/** Every promise of the document with ordinary inputs, its edges and wrong inputs; answers worked out by hand. */
public final class PromisesTest {
    private static final long LOST = KnifeBoard.LOST;
    private static final int LEAST = Integer.MIN_VALUE, MOST = Integer.MAX_VALUE;
    private static final String STRAIGHT = "h00100;u00100;a00100";

    private PromisesTest() {
    }

    public static void main(String[] args) {
        newObject();
        knives();
        lying();
        coming();
        sticking();
        hands();
        weights();
        likely();
        boards();
        hurting();
        holding();
        rules();
        orders();
        wheel();
        when();
        marks();
        chalk();
        byChalk();
        sheets();
        copying();
        telling();
        faults();
        many();
        Check.end();
    }

    private static void due(String call, long got, long want) {
        Check.due(call, got, want);
    }

    private static void write(KnifeBoard x, int k, int sort, String text) {
        x.sheet(k, sort, text.length());
        for (int i = 0; i < text.length(); i++) x.put(k, i, text.charAt(i));
    }

    private static int hand(KnifeBoard x, String text) {
        write(x, 3, 0, text);
        return x.hand(3, 0, 0, text.length());
    }

    private static int board(KnifeBoard x, String text) {
        write(x, 3, 0, text);
        return x.board(3, 0, 0, text.length());
    }

    private static void row(KnifeBoard x, int k, int sort, int... numbers) {
        x.sheet(k, sort, numbers.length);
        for (int i = 0; i < numbers.length; i++) x.put(k, i, numbers[i]);
    }

    /** A board, a hand, and a knife that lies as it was let go at every foot, with WIDTH 1. */
    private static KnifeBoard made(String hand, String board) {
        KnifeBoard x = new KnifeBoard();
        due("hand " + hand, hand(x, hand), 1);
        due("board " + board, board(x, board), x.many(2) * x.many(3));
        due("knife", x.knife(0, 1, 24, 1), 0);
        return x;
    }

    // promise 1
    private static void newObject() {
        KnifeBoard x = new KnifeBoard();
        for (int what = 0; what <= 5; what++) due("new many " + what, x.many(what), 0);
        for (int k = 0; k < 4; k++) due("new lose " + k, x.lose(k), 0);
        due("new trace", x.trace(), 0);
        due("new fault", x.fault(), 0);
        due("new ofKnife", x.ofKnife(0, 0), -1);
        due("new ofCell", x.ofCell(0), -1);
        due("new weight", x.weight(0, 0, 0), -3);
        due("new stage", x.stage(0), -3);
        due("new allowed", x.allowed(0, 0), -3);
        due("new nearest", x.nearest(0, 0), -3);
        due("new put", x.put(0, 0, 0), -11);
    }

    // promises 2, 3
    private static void knives() {
        KnifeBoard x = new KnifeBoard();
        int[][] wrong = {{-1, 1, 1, 0}, {3, 1, 1, 0}, {0, 0, 1, 0}, {0, 10, 1, 0}, {0, 1, 0, 0}, {0, 1, 25, 0},
            {0, 1, 1, -1}, {0, 1, 1, 6}, {LEAST, MOST, LEAST, MOST}};
        for (int[] a : wrong) due("wrong knife", x.knife(a[0], a[1], a[2], a[3]), -2);
        due("no knife came", x.many(0), 0);
        due("first knife", x.knife(0, 1, 1, 0), 0);
        due("second knife", x.knife(1, 9, 24, 5), 1);
        due("third knife", x.knife(2, 4, 7, 3), 2);
        for (int k = 3; k < 6; k++) due("more knives", x.knife(0, 5, 5, 5), k);
        due("seventh knife", x.knife(0, 5, 5, 5), -4);
        for (int[] a : wrong) due("wrong ahead of full", x.knife(a[0], a[1], a[2], a[3]), -2);
        due("six knives", x.many(0), 6);
        int[][] told = {{0, 1, 1, 0, 0}, {1, 9, 24, 5, 6}, {2, 4, 7, 3, 4}};
        for (int k = 0; k < 3; k++) {
            for (int what = 0; what < 5; what++) due("ofKnife " + k + " " + what, x.ofKnife(k, what), told[k][what]);
            due("ofKnife what -1", x.ofKnife(k, -1), -2);
            due("ofKnife what 5", x.ofKnife(k, 5), -2);
        }
        due("ofKnife -1", x.ofKnife(-1, 9), -1);
        due("ofKnife 6", x.ofKnife(6, 0), -1);
        due("ofKnife least", x.ofKnife(LEAST, MOST), -1);
    }

    // promise 4
    private static void lying() {
        KnifeBoard x = new KnifeBoard();
        x.knife(0, 6, 4, 0);
        x.knife(0, 1, 24, 0);
        int[][] due = {{0, 0, 1, 2, 3}, {0, 0, 3, 2, 1}, {0, 23, 2, 1, 3}, {0, 20, 6, 0, 1}, {0, 20, 5, 70, 3},
            {0, 0, 36, 0, 1}, {0, 23, 40, 5, 3}, {1, 0, 40, 0, 1}, {1, 17, 40, 17, 1}};
        for (int[] a : due) {
            due("lies upper of " + a[1] + " at " + a[2], x.lies(a[0], a[1], a[2], 0), a[3]);
            due("lies lower of " + a[1] + " at " + a[2], x.lies(a[0], a[1], a[2], 1), a[4]);
        }
        int[][] wrong = {{-1, 0, 1, 0}, {2, 0, 1, 0}, {0, -1, 1, 0}, {0, 24, 1, 0}, {0, 0, 0, 0}, {0, 0, 41, 0},
            {0, 0, 1, -1}, {0, 0, 1, 2}, {LEAST, LEAST, LEAST, LEAST}, {0, MOST, MOST, MOST}};
        for (int[] a : wrong) due("lies wrong", x.lies(a[0], a[1], a[2], a[3]), LOST);
    }

    // promise 5
    private static void coming() {
        KnifeBoard x = new KnifeBoard();
        x.knife(0, 1, 24, 2);
        int[] width2 = {0, 0, 0, 3, 2, 2, 2, 2, 2, 3, 1, 1, 1, 1, 1, 3, 2, 2, 2, 2, 2, 3, 0, 0};
        x.knife(0, 1, 24, 0);
        int[] width0 = {0, 3, 3, 3, 2, 2, 2, 2, 2, 3, 3, 3, 1, 3, 3, 3, 2, 2, 2, 2, 2, 3, 3, 3};
        x.knife(0, 1, 24, 5);
        int[] width5 = {0, 0, 0, 0, 0, 0, 2, 1, 1, 1, 1, 1, 1, 1, 1, 1, 1, 1, 2, 0, 0, 0, 0, 0};
        x.knife(1, 1, 24, 5);
        int[] width6 = {0, 0, 0, 0, 0, 0, 0, 1, 1, 1, 1, 1, 1, 1, 1, 1, 1, 1, 0, 0, 0, 0, 0, 0};
        int[][] all = {width2, width0, width5, width6};
        for (int k = 0; k < 4; k++) {
            for (int start = 0; start < 24; start++) {
                due("comes " + k + " " + start, x.comes(k, start, 1 + start), all[k][start]);
            }
        }
        // by halves: 1/2 beside 0, 1/2 beside the edge of 2 from 6
        due("knife by halves", x.knife(0, 2, 1, 0), 4);
        due("half beside 0", x.comes(4, 0, 1), 3);
        due("just at 0", x.comes(4, 23, 2), 0);
        due("half before flat", x.comes(4, 3, 1), 3);
        due("half in flat", x.comes(4, 4, 1), 2);
        due("half behind flat", x.comes(4, 8, 1), 3);
        due("no knife", x.comes(5, -1, 0), -1);
        due("no knife below", x.comes(-1, 0, 1), -1);
        int[][] wrong = {{-1, 1}, {24, 1}, {0, 0}, {0, 41}, {LEAST, MOST}};
        for (int[] a : wrong) due("comes wrong", x.comes(0, a[0], a[1]), -2);
    }

    // promise 6
    private static void sticking() {
        KnifeBoard x = new KnifeBoard();
        x.knife(0, 1, 12, 0);
        x.knife(1, 1, 12, 0);
        x.knife(2, 1, 12, 0);
        x.knife(0, 1, 24, 0);
        due("sticks at even feet", x.sticks(0, 0), 0x2AAAAAAA);
        due("sticks at odd feet", x.sticks(0, 12), 0x55555555);
        due("sticks never", x.sticks(0, 1), 0);
        due("hatchet 1 beside", x.sticks(1, 1), 0x2AAAAAAA);
        due("hatchet not by its butt", x.sticks(1, 13), 0x55555555);
        due("double by both ends", x.sticks(2, 0), 0x7FFFFFFF);
        due("double flat", x.sticks(2, 6), 0);
        due("sticks always", x.sticks(3, 0), 0x7FFFFFFF);
        due("sticks start 24", x.sticks(0, 24), -2);
        due("sticks start -1", x.sticks(0, -1), -2);
        due("sticks no knife", x.sticks(4, 24), -1);
        due("sticks no knife below", x.sticks(-1, 0), -1);
    }

    // promise 7
    private static void hands() {
        KnifeBoard x = new KnifeBoard();
        String whole = "h00001;u10000;a00900;t9";
        for (int n = 0; n < whole.length(); n++) {
            due("hand ends at " + n, hand(new KnifeBoard(), whole.substring(0, n)), n == 20 ? 1 : -100 - n);
        }
        due("whole hand", hand(x, whole), 1);
        due("tires", x.many(5), 9);
        due("one code more", hand(x, whole + "0"), -123);
        due("one code more than short", hand(x, whole.substring(0, 20) + "0"), -120);
        for (int place = 0; place < whole.length(); place++) {
            String spoilt = whole.substring(0, place) + "?" + whole.substring(place + 1);
            due("spoilt at " + place, hand(new KnifeBoard(), spoilt), -100 - place);
        }
        due("old hand stays", x.many(5), 9);
        due("all five 0", hand(x, "h00000;u10000;a00900"), -105);
        due("all five up 0", hand(x, "h00001;u00000;a00900"), -112);
        due("all five across 0", hand(x, "h00001;u10000;a00000"), -119);
        due("tires 0", hand(x, "h00001;u10000;a00900;t0"), -122);
        due("letters in turn", hand(x, "h00001;a10000;u00900"), -107);
        due("no tires", hand(x, "h00001;u10000;a00900"), 1);
        due("tires not told", x.many(5), 0);
        for (int sort = 0; sort < 3; sort++) {
            write(x, 0, sort, "!!" + whole);
            due("hand of sort " + sort, x.hand(0, sort, 2, 23), 1);
            due("hand of sort, too soon", x.hand(0, sort, 2, 21), -121);
            due("hand from elsewhere", x.hand(0, sort, 1, 23), -100);
        }
        x.put(0, 2, 104 + 65536);
        due("no code so high", x.hand(0, 2, 2, 23), -100);
        facesOfText(x);
    }

    private static void facesOfText(KnifeBoard x) {
        write(x, 0, 1, "h0000");
        x.lose(1);
        // sheet, sort, i, n, answer, fault
        int[][] due = {{-1, 9, 0, 0, -1, 0}, {4, 9, 0, 0, -1, 0}, {0, -1, 0, -1, -2, 0}, {0, 3, 9, 1, -2, 0},
            {1, 3, 0, 0, -2, 0}, {0, 0, 0, -1, -12, 2}, {0, 2, 9, 1, -12, 2}, {1, 0, 0, -1, -11, 1}, {1, 2, 9, 9, -11, 1},
            {0, 1, 9, -1, -14, 4}, {0, 1, 0, LEAST, -14, 4}, {0, 1, 0, 6, -13, 3}, {0, 1, -1, 1, -13, 3},
            {0, 1, -1, 0, -13, 3}, {0, 1, 6, 0, -13, 3}, {0, 1, 5, 1, -13, 3}, {0, 1, 1, MOST, -13, 3},
            {0, 1, MOST, 1, -13, 3}, {0, 1, 5, 0, -100, 0}, {0, 1, 0, 0, -100, 0}};
        for (int[] a : due) {
            x.put(0, -1, 0);
            due("hand refuses", x.hand(a[0], a[1], a[2], a[3]), a[4]);
            due("hand's fault", x.fault(), a[5]);
            x.put(0, -1, 0);
            due("board refuses", x.board(a[0], a[1], a[2], a[3]), a[4]);
            due("board's fault", x.fault(), a[5]);
        }
    }

    // promises 8, 9
    private static void weights() {
        KnifeBoard x = new KnifeBoard();
        due("no hand, wrong row", x.weight(3, 0, 0), -1);
        due("no hand, wrong d", x.weight(0, 3, 0), -2);
        due("no hand", x.weight(0, 2, 9), -3);
        due("no hand, wrong n", x.stage(10000), -2);
        hand(x, "h12345;u67890;a08079;t3");
        int[][] told = {{1, 2, 3, 4, 5}, {6, 7, 8, 9, 0}, {0, 8, 0, 7, 9}};
        for (int row = 0; row < 3; row++) {
            for (int d = -2; d <= 2; d++) {
                for (int stage = 0; stage <= 9; stage++) {
                    int weight = told[row][d + 2];
                    due("weight", x.weight(row, d, stage), d == 0 ? weight : Math.min(9, weight + stage));
                }
            }
        }
        due("row -1", x.weight(-1, 9, 9), -1);
        due("row 3", x.weight(3, 9, 99), -1);
        due("d -3", x.weight(0, -3, 0), -2);
        due("d 3", x.weight(0, 3, 0), -2);
        due("stage -1", x.weight(0, 0, -1), -2);
        due("stage 10", x.weight(0, 0, 10), -2);
        int[][] stages = {{0, 0}, {2, 0}, {3, 1}, {26, 8}, {27, 9}, {30, 9}, {9999, 9}, {-1, -2}, {10000, -2}};
        for (int[] a : stages) due("stage of " + a[0], x.stage(a[0]), a[1]);
        hand(x, "h12345;u67890;a08079");
        due("stage without tires", x.stage(9999), 0);
    }

    // promises 10, 11
    private static void likely() {
        KnifeBoard x = made("h12345;u00100;a00100", "b11;w");
        int[][] due = {{0, 0, 3, 5}, {1, 0, 2, 5}, {23, 0, 4, 5}, {22, 0, 3, 5}, {12, 0, 0, 1}, {0, 1, 11, 19}, {0, 9, 7, 13}};
        for (int[] a : due) {
            due("likely upper " + a[0], x.likely(0, a[0], 7, a[1], 0), a[2]);
            due("likely lower " + a[0], x.likely(0, a[0], 7, a[1], 1), a[3]);
        }
        int[][] wrong = {{1, 0, 1, 0, 0}, {-1, 0, 1, 0, 0}, {0, -1, 1, 0, 0}, {0, 24, 1, 0, 0}, {0, 0, 0, 0, 0},
            {0, 0, 41, 0, 0}, {0, 0, 1, -1, 0}, {0, 0, 1, 10, 0}, {0, 0, 1, 0, -1}, {0, 0, 1, 0, 2}};
        for (int[] a : wrong) due("likely wrong", x.likely(a[0], a[1], a[2], a[3], a[4]), LOST);
        due("best feet", x.best(0, 0, 0), 1);
        due("best start", x.best(0, 0, 1), 23);
        due("best start, tired", x.best(0, 9, 1), 0);
        due("best no knife", x.best(1, 10, 2), -1);
        due("best stage -1", x.best(0, -1, 0), -2);
        due("best stage 10", x.best(0, 10, 0), -2);
        due("best what -1", x.best(0, 0, -1), -2);
        due("best what 2", x.best(0, 0, 2), -2);
        hand(x, STRAIGHT);
        // a knife that lies straight only by whole paces: at 9 feet round by 1
        x.knife(0, 9, 1, 0);
        due("best feet by pace", x.best(1, 0, 0), 9);
        due("best start by pace", x.best(1, 0, 1), 23);
        KnifeBoard none = new KnifeBoard();
        none.knife(0, 1, 1, 1);
        due("likely without hand", none.likely(0, 0, 1, 0, 0), LOST);
        due("best without hand", none.best(0, 0, 0), -3);
        due("best wrong without hand", none.best(0, 0, 2), -2);
    }

    // promises 12, 13
    private static void boards() {
        KnifeBoard x = new KnifeBoard();
        String whole = "b23;wkx;ykw";
        for (int n = 0; n < whole.length(); n++) due("board ends at " + n, board(x, whole.substring(0, n)), -100 - n);
        due("no board", x.many(1), 0);
        due("whole board", board(x, whole), 6);
        due("one code more", board(x, whole + ";"), -111);
        for (int place = 0; place < whole.length(); place++) {
            due("spoilt at " + place, board(x, whole.substring(0, place) + "!" + whole.substring(place + 1)), -100 - place);
        }
        int[] letters = {0, 1, 2, 3, 1, 0};
        for (int c = 0; c < 6; c++) due("ofCell " + c, x.ofCell(c), letters[c]);
        due("ofCell -1", x.ofCell(-1), -1);
        due("ofCell 6", x.ofCell(6), -1);
        due("high 0", board(x, "b03"), -101);
        due("high 7", board(x, "b73"), -101);
        due("wide 0", board(x, "b30"), -102);
        due("wide 7", board(x, "b37"), -102);
        due("row too long", board(x, "b12;www"), -106);
        due("row too short", board(x, "b22;w;ww"), -105);
        due("old board stays", x.many(1), 6);
        StringBuilder most = new StringBuilder("b66");
        for (int row = 0; row < 6; row++) most.append(";wwwwwy");
        due("most cells", board(x, most.toString()), 36);
        due("last cell", x.ofCell(35), 3);
        due("least cells", board(x, "b11;k"), 1);
        due("its cell", x.ofCell(0), 1);
        due("no other", x.ofCell(1), -1);
    }

    // promise 14
    private static void hurting() {
        KnifeBoard x = made("h00100;u00001;a10000", "b33;xww;www;wwy");
        due("two up, two left", x.hurts(8, 0, false, 0), 1);
        due("beside", x.hurts(0, 0, true, 0), 0);
        due("nothing by one", x.hurts(0, 0, true, 1), 1);
        // stage 1: up 1 1 0 1 2, across 2 1 0 1 1: of 25; two down and right are 1 of them
        due("hurts y", x.hurts(0, 1, true, 0), 1);
        due("hurts y lower", x.hurts(0, 1, true, 1), 25);
        due("out of breath", x.hurts(0, 1, false, 0), 0);
        due("out of breath lower", x.hurts(0, 1, false, 1), 1);
        due("hurts x and y", x.hurts(4, 1, true, 0), 2);
        due("no cell", x.hurts(9, 0, true, 0), LOST);
        due("no cell below", x.hurts(-1, 0, true, 0), LOST);
        due("stage -1", x.hurts(0, -1, true, 0), LOST);
        due("stage 10", x.hurts(0, 10, true, 0), LOST);
        due("which -1", x.hurts(0, 0, true, -1), LOST);
        due("which 2", x.hurts(0, 0, true, 2), LOST);
        KnifeBoard none = new KnifeBoard();
        board(none, "b11;x");
        due("no hand", none.hurts(0, 0, true, 0), LOST);
    }

    // promise 15
    private static void holding() {
        KnifeBoard x = made("h12345;u00100;a01111", "b14;kwxw");
        // sticks by 3/5; from cell 1 to k, w, x, w by 1/4 each
        due("holds upper", x.holds(0, 0, 5, 1, 0, 0), 3);
        due("holds lower", x.holds(0, 0, 5, 1, 0, 1), 10);
        // from cell 3 to x, w, beside, beside
        due("holds at the rim", x.holds(0, 0, 5, 3, 0, 0), 3);
        due("holds at the rim, lower", x.holds(0, 0, 5, 3, 0, 1), 20);
        due("never sticks", x.holds(0, 12, 5, 1, 0, 0), 0);
        due("never sticks, lower", x.holds(0, 12, 5, 1, 0, 1), 1);
        int[][] wrong = {{1, 0, 1, 0, 0, 0}, {0, 0, 1, 4, 0, 0}, {0, 0, 1, -1, 0, 0}, {0, 24, 1, 0, 0, 0},
            {0, -1, 1, 0, 0, 0}, {0, 0, 0, 0, 0, 0}, {0, 0, 41, 0, 0, 0}, {0, 0, 1, 0, 10, 0}, {0, 0, 1, 0, -1, 0},
            {0, 0, 1, 0, 0, 2}, {0, 0, 1, 0, 0, -1}};
        for (int[] a : wrong) due("holds wrong", x.holds(a[0], a[1], a[2], a[3], a[4], a[5]), LOST);
    }

    // promises 16, 17
    private static void rules() {
        KnifeBoard x = made("h00100;u00100;a00110", "b14;wxwy");
        due("just allowed", x.allowed(500, 0), 0b101);
        due("just not allowed", x.allowed(499, 0), 0);
        due("none is nearest", x.nearest(499, 0), -9);
        due("nearest with two about", x.nearest(500, 0), 2);
        due("allowed m -1", x.allowed(-1, 0), -2);
        due("allowed m 1001", x.allowed(1001, 0), -2);
        due("allowed stage -1", x.allowed(0, -1), -2);
        due("allowed stage 10", x.allowed(0, 10), -2);
        due("nearest m 1001", x.nearest(1001, 0), -2);
        due("nearest stage 10", x.nearest(0, 10), -2);
        board(x, "b14;wkwx");
        due("wood alone", x.allowed(1000, 9), 0b101);
        board(x, "b66;wwwwww;wwwwww;wwwwww;wwwwww;kkkkkk;wwwwyx");
        due("nothing told of 31 on", x.allowed(0, 0), 0x40FFFFFF);
        due("nearest behind 30", x.nearest(1000, 0), 33);
        board(x, "b33;www;wxw;www");
        due("least of several", x.nearest(1000, 0), 0);
        board(x, "b11;x");
        due("she is no wood", x.nearest(1000, 0), -9);
        KnifeBoard none = new KnifeBoard();
        board(none, "b11;w");
        due("no hand", none.allowed(0, 0), -3);
        due("no hand, wrong", none.allowed(1001, 0), -2);
        KnifeBoard bare = new KnifeBoard();
        hand(bare, STRAIGHT);
        due("no board", bare.allowed(0, 0), -3);
        due("no board for nearest", bare.nearest(0, 0), -3);
    }

    // promise 18
    private static void orders() {
        KnifeBoard x = made("h00100;u00100;a00100;t1", "b14;wwwx");
        row(x, 0, 2, 7, 2, 0, 7);
        // stage s: cell 2 hurts by s of (4s + 1) squared, cell 0 never
        int[][] due = {{0, -1, 0}, {0, 0, 2}, {0, 1, 0}, {0, 2, -9}, {0, 5, -9}, {1, -1, 24691}, {1, 0, 0}, {1, 1, 2},
            {9999, -1, 6574}, {9999, 0, 0}, {9999, 1, 2}};
        for (int[] a : due) due("order from " + a[0] + " " + a[1], x.order(a[0], 0, 2, 1, 2, a[1]), a[2]);
        row(x, 0, 1, 3, 1, 2, 0);
        // in millionths of stages 0 to 3: cell 3 1000000, 40000, 12345, 5917; 1 and 2 0, 40000, 24691, 17751; 0 none
        due("sum of four", x.order(0, 0, 1, 0, 4, -1), 12345 + 17751);
        for (int q = 0; q < 4; q++) due("of four " + q, x.order(0, 0, 1, 0, 4, q), new int[] {1, 0, 3, 2}[q]);
        ordersRefused(x);
    }

    private static void ordersRefused(KnifeBoard x) {
        row(x, 0, 1, 3, 1, 2, 0, 3, 4, 9);
        x.lose(1);
        // first, sheet, sort, i, n, q, answer, fault
        int[][] due = {{-1, 4, 9, 0, 1, 0, -1, 0}, {0, -1, 0, 0, 1, 0, -1, 0}, {0, 0, 3, 0, 1, 0, -2, 0},
            {-1, 0, 0, 0, -1, 0, -2, 0}, {10000, 1, 0, 0, 1, 0, -2, 0}, {0, 0, 0, 0, -1, 9, -12, 2},
            {0, 1, 0, 0, -1, 9, -11, 1}, {0, 0, 1, 9, -1, 9, -14, 4}, {0, 0, 1, 0, 8, 9, -13, 3},
            {0, 0, 1, 8, 0, 0, -13, 3}, {0, 0, 1, 7, 0, 0, -2, 0}, {0, 0, 1, 0, 7, 9, -2, 0},
            {0, 0, 1, 1, 6, 0, -1, 0}, {0, 0, 1, 0, 5, 9, -2, 0}, {0, 0, 1, 0, 6, 0, -1, 0}, {0, 0, 1, 0, 4, 6, -1, 0},
            {0, 0, 1, 0, 4, -2, -1, 0}, {0, 0, 1, 0, 1, 1, -9, 0}, {0, 0, 1, 0, 1, 0, 3, 0}};
        for (int[] a : due) {
            x.put(0, -1, 0);
            due("order refuses", x.order(a[0], a[1], a[2], a[3], a[4], a[5]), a[6]);
            due("order's fault", x.fault(), a[7]);
        }
        KnifeBoard none = new KnifeBoard();
        board(none, "b11;w");
        row(none, 0, 0, 0);
        due("order without hand", none.order(0, 0, 0, 0, 1, 0), -3);
        due("order without hand, fewer", none.order(0, 0, 0, 0, 1, 1), -3);
        due("order without hand, q", none.order(0, 0, 0, 0, 1, 6), -1);
    }

    // promise 19
    private static void wheel() {
        KnifeBoard x = new KnifeBoard();
        board(x, "b22;wk;xy");
        int[][] quarters = {{0, 1, 2, 3}, {2, 0, 3, 1}, {3, 2, 1, 0}, {1, 3, 0, 2}};
        for (int tick = 0; tick < 12; tick++) {
            for (int c = 0; c < 4; c++) {
                due("turned " + c + " in " + tick, x.turned(c, 1, tick), quarters[tick % 4][c]);
            }
        }
        due("not yet", x.turned(0, 60, 59), 0);
        due("just turned", x.turned(0, 60, 60), 2);
        due("last tick", x.turned(0, 1, 99999), 1);
        due("no cell", x.turned(4, 0, 0), -1);
        due("no cell below", x.turned(-1, 1, 0), -1);
        int[][] wrong = {{0, 0}, {61, 0}, {1, -1}, {1, 100000}};
        for (int[] a : wrong) due("turned wrong", x.turned(0, a[0], a[1]), -2);
        board(x, "b12;wk");
        due("not as high as wide", x.turned(0, 1, 0), -3);
        due("not as high as wide, wrong", x.turned(0, 0, 0), -2);
    }

    // promise 20
    private static void when() {
        KnifeBoard x = made(STRAIGHT, "b22;xw;ww");
        x.knife(0, 9, 1, 1);
        x.knife(0, 2, 1, 1);
        // knife, f, c, q, p, k, m, from, answer
        int[][] due = {{1, 1, 0, 5, 1, 0, 0, 0, 4}, {1, 1, 0, 5, 1, 0, 0, 5, 5}, {1, 1, 0, 5, 1, 0, 0, 19, 24},
            {1, 9, 0, 5, 1, 0, 0, 0, 4}, {1, 10, 0, 5, 1, 0, 0, 0, 3}, {2, 3, 0, 5, 1, 0, 0, 0, 3},
            {0, 40, 0, 60, 1, 0, 0, 0, 20}, {1, 1, 0, 5, 1, 0, 1000, 1, 1}, {1, 1, 0, 5, 1, 0, 999, 1, 4},
            {1, 1, 1, 5, 1, 0, 0, 0, 0}, {1, 1, 1, 5, 1, 0, 0, 4, 9}, {1, 1, 0, 5, 1, 0, 0, 9999, 10004}};
        for (int[] a : due) due("when", x.when(a[0], a[1], a[2], a[3], a[4], a[5], a[6], a[7]), a[8]);
        board(x, "b11;y");
        due("breath", x.when(1, 9, 0, 1, 10, 4, 0, 0), 3);
        due("breath, already out", x.when(1, 9, 0, 1, 10, 4, 0, 5), 5);
        due("breath, never in", x.when(1, 9, 0, 1, 10, 0, 0, 0), 0);
        due("breath, always in", x.when(1, 9, 0, 1, 10, 10, 0, 0), -9);
        board(x, "b22;yx;xx");
        // harmless only where the rest by 59 is 58 and that by 60 below 15: first again in tick 2654
        due("a thousand ticks behind", x.when(1, 1, 0, 15, 59, 58, 0, 1653), 2653);
        due("one more", x.when(1, 1, 0, 15, 59, 58, 0, 1652), -9);
        whenRefused(x);
    }

    private static void whenRefused(KnifeBoard x) {
        int[] right = {0, 1, 0, 1, 1, 0, 0, 0};
        int[][] wrong = {{0, -1, -1}, {0, 3, -1}, {2, -1, -1}, {2, 4, -1}, {1, 0, -2}, {1, 41, -2}, {3, 0, -2},
            {3, 61, -2}, {4, 0, -2}, {4, 61, -2}, {5, -1, -2}, {5, 2, -2}, {6, -1, -2}, {6, 1001, -2}, {7, -1, -2},
            {7, 10000, -2}, {4, LEAST, -2}};
        for (int[] w : wrong) {
            int[] a = right.clone();
            a[w[0]] = w[1];
            due("when wrong", x.when(a[0], a[1], a[2], a[3], a[4], a[5], a[6], a[7]), w[2]);
        }
        board(x, "b12;ww");
        due("when not as high as wide", x.when(0, 1, 0, 1, 1, 0, 0, 0), -3);
        KnifeBoard none = new KnifeBoard();
        none.knife(0, 1, 1, 1);
        due("when without board", none.when(0, 1, 0, 1, 1, 0, 0, 0), -1);
        board(none, "b11;w");
        due("when without hand", none.when(0, 1, 0, 1, 1, 0, 0, 0), -3);
        due("when without hand, wrong", none.when(0, 0, 0, 1, 1, 0, 0, 0), -2);
    }

    // promises 21 to 24
    private static void marks() {
        KnifeBoard x = new KnifeBoard();
        x.knife(0, 1, 5, 0);
        due("all ways", x.guessed(0, 0), 576);
        due("first of all", x.guessed(0, 1), 1);
        due("first mark", x.mark(1, 0), 0);
        due("24 ways", x.guessed(0, 0), 24);
        due("first is start 0, turn 24", x.guessed(0, 1), 24);
        // the others lie by TURN times (f less 1): at 2 feet 1, 1, 10, 12 of them
        due("feet that tell most", x.tells(0, 0), 2);
        due("left at worst", x.tells(0, 1), 12);
        due("second mark", x.mark(2, 0), 1);
        due("one way", x.guessed(0, 0), 1);
        due("the way", x.guessed(0, 1), 24);
        due("any feet tell", x.tells(0, 0), 1);
        due("third mark", x.mark(2, 1), 2);
        due("no way", x.guessed(0, 0), 0);
        due("no first", x.guessed(0, 1), -9);
        due("nothing to tell", x.tells(0, 0), -9);
        due("nothing left", x.tells(0, 1), -9);
        due("back 4", x.back(4), -2);
        due("back -1", x.back(-1), -2);
        due("back 0", x.back(0), 3);
        due("back 1", x.back(1), 2);
        due("one way again", x.guessed(0, 0), 1);
        due("back 2", x.back(2), 0);
        int[][] wrong = {{0, 0}, {41, 0}, {1, -1}, {1, 4}};
        for (int[] a : wrong) due("wrong mark", x.mark(a[0], a[1]), -2);
        for (int m = 0; m < 10; m++) due("mark " + m, x.mark(40, 3), m);
        due("full", x.mark(1, 0), -4);
        for (int[] a : wrong) due("wrong ahead of full", x.mark(a[0], a[1]), -2);
        due("ten marks", x.many(4), 10);
        due("guessed no knife", x.guessed(1, 2), -1);
        due("guessed what 2", x.guessed(0, 2), -2);
        due("guessed what -1", x.guessed(0, -1), -2);
        due("tells no knife", x.tells(1, 2), -1);
        due("tells what 2", x.tells(0, 2), -2);
        due("tells what -1", x.tells(0, -1), -2);
        due("all back", x.back(10), 0);
    }

    // promise 25
    private static void chalk() {
        KnifeBoard x = new KnifeBoard();
        row(x, 0, 0, 50, 4, -99, -6, 99, 2, 0, -3, -12, 100);
        // rows from 1 on: (4, -99), (-6, 99), (2, 0), (-3, -12)
        int[][] due = {{1, 1, 0, 4, 1}, {1, 1, 1, -99, 1}, {1, 4, 0, -3, 4}, {1, 4, 1, -3, 1}, {1, 4, 2, 15, 1},
            {1, 4, 3, 210, 1}, {1, 3, 0, 0, 1}, {3, 2, 0, -2, 1}, {3, 2, 1, 99, 2}};
        for (int[] a : due) {
            due("chalk upper " + a[2], x.chalk(0, 0, a[0], a[1], a[2], 0), a[3]);
            due("chalk lower " + a[2], x.chalk(0, 0, a[0], a[1], a[2], 1), a[4]);
        }
        x.sheet(1, 2, 80);
        due("forty rows", x.chalk(1, 2, 0, 40, 0, 1), 1);
        x.put(1, 79, -100);
        chalkRefused(x);
    }

    private static void chalkRefused(KnifeBoard x) {
        // sheet, sort, i, n, what, which, fault; all are lost
        int[][] wrong = {{4, 0, 0, 1, 0, 0, 0}, {-1, 9, 0, 1, 0, 0, 0}, {0, 3, 0, -1, 0, 0, 0}, {0, -1, 0, 1, 0, 0, 0},
            {0, 1, 0, -1, 9, 9, 2}, {2, 1, 0, -1, 9, 9, 1}, {0, 0, 99, -1, 9, 9, 4}, {0, 0, 0, 6, 9, 9, 3},
            {0, 0, 9, 1, 0, 0, 3}, {0, 0, 10, 0, 0, 0, 0}, {0, 0, 11, 0, 0, 0, 3}, {0, 0, -1, 0, 0, 0, 3},
            {0, 0, 0, 0, 0, 0, 0}, {1, 2, 0, 41, 0, 0, 3}, {0, 0, 0, 1 << 30, 0, 0, 3}, {0, 0, 0, MOST, 0, 0, 3},
            {0, 0, 0, LEAST, 0, 0, 4}, {0, 0, 8, 1, 0, 0, 0}, {1, 2, 78, 1, 0, 0, 0}, {0, 0, 1, 1, -1, 0, 0},
            {0, 0, 1, 1, 4, 0, 0}, {0, 0, 1, 1, 0, -1, 0}, {0, 0, 1, 1, 0, 2, 0}};
        board(x, "b11;x");
        for (int[] a : wrong) {
            x.put(0, -1, 0);
            due("chalk wrong", x.chalk(a[0], a[1], a[2], a[3], a[4], a[5]), LOST);
            due("chalk's fault", x.fault(), a[6]);
            if (a[4] != 0) continue;
            x.put(0, -1, 0);
            due("byChalk wrong", x.byChalk(0, a[0], a[1], a[2], a[3], a[5]), LOST);
            due("byChalk's fault", x.fault(), a[6]);
            x.put(0, -1, 0);
            due("byChalk no cell", x.byChalk(1, a[0], a[1], a[2], a[3], a[5]), LOST);
            due("byChalk no cell's fault", x.fault(), 0);
        }
    }

    // promise 26
    private static void byChalk() {
        KnifeBoard x = new KnifeBoard();
        board(x, "b23;wxw;ykw");
        row(x, 0, 1, 0, 0, 1, 0, 0, 1, 1, 1, -1, -1, 99, -99);
        // from cell 4: k, x, w, w, beside, beside; from 3: y, w, k, x, beside, beside
        due("byChalk upper", x.byChalk(4, 0, 1, 0, 6, 0), 1);
        due("byChalk lower", x.byChalk(4, 0, 1, 0, 6, 1), 6);
        due("y hurts, too", x.byChalk(3, 0, 1, 0, 6, 0), 1);
        due("y hurts, too, lower", x.byChalk(3, 0, 1, 0, 6, 1), 3);
        due("down and left", x.byChalk(1, 0, 1, 8, 1, 0), 1);
        due("never", x.byChalk(2, 0, 1, 0, 6, 0), 0);
        due("never, lower", x.byChalk(2, 0, 1, 0, 6, 1), 1);
        due("cell -1", x.byChalk(-1, 0, 1, 0, 6, 0), LOST);
        due("cell 6", x.byChalk(6, 0, 1, 0, 6, 0), LOST);
    }

    // promises 27 to 30
    private static void sheets() {
        KnifeBoard x = new KnifeBoard();
        int[][] made = {{-1, 9, -1, -1}, {4, 0, 0, -1}, {0, -1, 0, -2}, {0, 3, -1, -2}, {0, 0, 81, -2}, {0, 0, -1, -14},
            {0, 0, LEAST, -14}, {0, 0, 0, 1}, {1, 0, 80, 1}, {2, 1, 2, 1}, {3, 2, 2, 1}};
        for (int[] a : made) {
            due("sheet", x.sheet(a[0], a[1], a[2]), a[3]);
            due("sheet's fault", x.fault(), a[3] == -14 ? 4 : 0);
        }
        int[][] cut = {{127, 127, 127}, {128, -128, 128}, {-129, 127, -129}, {32768, 0, -32768}, {MOST, -1, -1},
            {LEAST, 0, 0}, {65536 + 7, 7, 7}};
        for (int[] a : cut) {
            for (int k = 1; k <= 3; k++) due("put", x.put(k, 1, a[0]), 1);
            due("byte", x.cell(1, 1, 0), a[1]);
            due("short", x.cell(2, 1, 1), a[2]);
            due("int", x.cell(3, 1, 2), a[0]);
        }
        due("0 at first", x.cell(3, 0, 2), 0);
        due("last cell", x.put(1, 79, 5), 1);
        due("new row", x.sheet(1, 0, 80), 1);
        due("0 again", x.cell(1, 79, 0), 0);
        int[][] puts = {{-1, 0, -1}, {4, 0, -1}, {0, 0, -13}, {1, 80, -13}, {1, -1, -13}, {1, MOST, -13}, {1, LEAST, -13}};
        for (int[] a : puts) {
            due("put wrong", x.put(a[0], a[1], 0), a[2]);
            due("put's fault", x.fault(), a[2] == -13 ? 3 : 0);
        }
        due("lose", x.lose(1), 1);
        due("lose nothing", x.lose(1), 0);
        due("lose -1", x.lose(-1), -1);
        due("lose 4", x.lose(4), -1);
        due("put nowhere", x.put(1, -1, 0), -11);
        int[][] cells = {{4, 0, 9, 0}, {-1, 0, 0, 0}, {2, 0, 3, 0}, {2, 0, -1, 0}, {2, 9, 0, 2}, {2, 9, 2, 2}, {1, 9, 0, 1},
            {1, 0, 2, 1}, {2, 2, 1, 3}, {2, -1, 1, 3}, {0, 0, 0, 3}};
        for (int[] a : cells) {
            x.put(2, 9, 9);
            due("cell wrong", x.cell(a[0], a[1], a[2]), LOST);
            due("cell's fault", x.fault(), a[3]);
        }
    }

    // promise 31
    private static void copying() {
        KnifeBoard x = new KnifeBoard();
        row(x, 0, 1, 1, 2, 3, 4, 5);
        row(x, 1, 1, 9, 9, 9);
        row(x, 2, 2, 9, 9, 9);
        due("copy", x.copy(0, 1, 1, 0, 2), 2);
        for (int i = 0; i < 3; i++) due("copied " + i, x.cell(1, i, 1), new int[] {2, 3, 9}[i]);
        due("copy to the right", x.copy(0, 0, 0, 1, 4), 4);
        for (int i = 0; i < 5; i++) due("right " + i, x.cell(0, i, 1), new int[] {1, 1, 2, 3, 4}[i]);
        due("copy to the left", x.copy(0, 1, 0, 0, 4), 4);
        for (int i = 0; i < 5; i++) due("left " + i, x.cell(0, i, 1), new int[] {1, 2, 3, 4, 4}[i]);
        // k, i, other, j, n, answer
        int[][] due = {{-1, 0, 0, 0, 0, -1}, {0, 0, 4, 0, 0, -1}, {3, 0, 4, 0, 0, -1}, {3, 9, 2, 9, -1, -11},
            {2, 9, 3, 9, -1, -11}, {3, 0, 3, 0, 0, -11}, {0, 9, 2, 9, -1, -12}, {2, 0, 0, 0, 0, -12}, {0, 0, 1, 0, 4, -13},
            {1, 0, 0, 0, 4, -13}, {0, -1, 1, 0, 0, -13}, {0, 0, 1, -1, 0, -13}, {0, 0, 1, 0, -1, -13}, {0, 6, 1, 0, 0, -13},
            {0, 0, 1, 4, 0, -13}, {0, 5, 1, 3, 0, 0}, {0, 1, 1, 1, MOST, -13}, {0, MOST, 1, 0, 1, -13},
            {0, 0, 1, MOST, MOST, -13}};
        for (int[] a : due) {
            due("copy wrong", x.copy(a[0], a[1], a[2], a[3], a[4]), a[5]);
            due("copy's fault", x.fault(), a[5] <= -11 ? -10 - a[5] : 0);
        }
        due("as it was", x.cell(1, 0, 1), 2);
    }

    // promises 32 to 35
    private static void telling() {
        KnifeBoard x = new KnifeBoard();
        x.knife(0, 7, 1, 0);
        x.knife(1, 7, 1, 0);
        x.knife(2, 7, 1, 0);
        int trace = 0;
        int[] told = {7, 107, 114}, whetted = {0, 1, 20};
        int[][] left = {{1}, {2, 1}, {3, 2, 1, 1}};
        for (int round = 0; round < 5; round++) {
            for (int k = 0; k < 3; k++) {
                due("tell " + k, x.tell(k), told[k]);
                for (int number : left[k]) trace = 31 * trace + number;
                due("trace behind tell " + k, x.trace(), trace);
                due("whet " + k, x.whet(k), whetted[k]);
                trace = 31 * trace + (k == 2 ? 5 : 4);
                due("trace behind whet " + k, x.trace(), trace);
            }
        }
        due("tell no knife", x.tell(3), -1);
        due("tell -1", x.tell(-1), -1);
        due("whet no knife", x.whet(3), -1);
        due("whet -1", x.whet(-1), -1);
        due("trace stays", x.trace(), trace);
        for (int k = 0; k < 3; k++) {
            for (int kind = 0; kind < 3; kind++) {
                due("as " + k + " " + kind, x.as(k, kind), kind <= k ? 1 : -12);
                due("as's fault", x.fault(), kind <= k ? 0 : 2);
            }
            due("as kind -1", x.as(k, -1), -2);
            due("as kind 3", x.as(k, 3), -2);
        }
        due("as no knife", x.as(3, 9), -1);
        due("as -1", x.as(-1, 0), -1);
    }

    // promise 36
    private static void faults() {
        KnifeBoard x = made(STRAIGHT, "b11;w");
        due("put faulty", x.put(3, 80, 0), -13);
        x.lies(9, 0, 1, 0);
        x.knife(0, 1, 1, 1);
        x.lose(0);
        x.many(9);
        x.tell(0);
        x.whet(9);
        x.hurts(9, 0, true, 0);
        x.mark(0, 0);
        x.stage(-1);
        x.allowed(-1, 0);
        x.turned(9, 9, 9);
        due("calls that name none leave it", x.fault(), 3);
        due("asked again", x.fault(), 3);
        due("a text's first fault is none", x.hand(3, 0, 0, 1), -100);
        due("fault behind it", x.fault(), 0);
        x.put(3, 80, 0);
        due("refused", x.sheet(9, 0, 0), -1);
        due("fault behind a refusal", x.fault(), 0);
        x.put(3, 80, 0);
        due("well done", x.put(3, 0, 0), 1);
        due("fault behind it", x.fault(), 0);
        x.put(3, 80, 0);
        x.cell(3, 0, 0);
        due("fault behind cell", x.fault(), 0);
        x.put(3, 80, 0);
        x.as(0, 0);
        due("fault behind as", x.fault(), 0);
        x.put(3, 80, 0);
        x.copy(3, 0, 3, 0, 0);
        due("fault behind copy", x.fault(), 0);
    }

    // promise 37
    private static void many() {
        KnifeBoard x = made("h00100;u00100;a00100;t7", "b52;ww;ww;ww;ww;ww");
        x.mark(1, 1);
        x.mark(1, 1);
        int[] due = {1, 10, 5, 2, 2, 7};
        for (int what = 0; what < 6; what++) due("many " + what, x.many(what), due[what]);
        due("many -1", x.many(-1), -2);
        due("many 6", x.many(6), -2);
        due("constants", KnifeBoard.UNKNOWN, -1);
        due("constants", KnifeBoard.OUTSIDE, -2);
        due("constants", KnifeBoard.STATE, -3);
        due("constants", KnifeBoard.FULL, -4);
        due("constants", KnifeBoard.NONE, -9);
        due("constants", KnifeBoard.LOST, LEAST * 4294967296L);
    }
}
