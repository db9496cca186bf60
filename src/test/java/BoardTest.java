/** Part 3 of the document, promises 12 to 15: each sentence that names a boundary. */
public final class BoardTest {
    private static final String OLD = "b32;wk;xy;yw", WHOLE = "b23;wkx;ykw";
    private static final String STRAIGHT = "h00100;u00100;a00100";
    private static final int[] STAGE = {-1, 10, Run.LEAST, Run.MOST}, WHICH = {-1, 2, Run.LEAST, Run.MOST};

    private BoardTest() {
    }

    public static void main(String[] args) {
        TextRefusals.of("board", new Run("board"));
        TextRefusals.of("board", new Run("another board").board(OLD));
        TextRefusals.read("board", WHOLE, 6);
        TextRefusals.read("board", "b11;y", 1);
        sizes();
        endsTooSoon();
        spoilt();
        highAndWide();
        numbersOfCells();
        anotherBoard();
        ofCellRefused();
        oneStray();
        besideTheBoard();
        whatHurts();
        sharesOfHurts();
        hurtsRefused();
        whatHolds();
        sharesOfHolds();
        holdsRefused();
        Check.end();
    }

    private static String boardOf(int high, int wide, char letter) {
        StringBuilder text = new StringBuilder("b").append(high).append(wide);
        for (int row = 0; row < high; row++) {
            text.append(';');
            for (int column = 0; column < wide; column++) text.append(letter);
        }
        return text.toString();
    }

    /** "a digit 1 .. 6 (HIGH), a digit 1 .. 6 (WIDE), then HIGH times: ; and WIDE letters". */
    private static void sizes() {
        for (int high = 1; high <= 6; high++) {
            for (int wide = 1; wide <= 6; wide++) {
                String text = boardOf(high, wide, 'y');
                Run x = new Run("size").board(text).due(high * wide, "many", 1).due(high, "many", 2)
                        .due(wide, "many", 3);
                x.still(3, "ofCell", high * wide - 1).still(Run.UNKNOWN, "ofCell", high * wide);
                int n = text.length();
                new Run("size, one less").text(0, 1, text).still(-100 - n + 1, "board", 0, 1, 0, n - 1);
                for (char more : new char[] {';', 'w', 'b', '1'}) {
                    new Run("size, one more").text(0, 1, text + more).still(-100 - n, "board", 0, 1, 0, n + 1);
                }
            }
        }
    }

    /** "how many codes there are, if it just ends too soon". */
    private static void endsTooSoon() {
        for (int n = 0; n < WHOLE.length(); n++) {
            new Run("ends at " + n).text(0, 0, WHOLE).still(-100 - n, "board", 0, 0, 0, n);
            new Run("old one stays, at " + n).board(OLD).text(0, 0, WHOLE).still(-100 - n, "board", 0, 0, 0, n);
        }
    }

    /** "FIRST FAULT as above": the first code with which no TEXT goes on. */
    private static void spoilt() {
        for (int place = 0; place < WHOLE.length(); place++) {
            for (int code : new int[] {'a', 'b', 'c', 'j', 'l', 'v', 'z', ':', '<', '0', '7', 0, -1, 256 + 'b', 'W'}) {
                if (code == WHOLE.charAt(place)) continue;
                TextRefusals.spoilt(new Run("spoilt").board(OLD), "board", WHOLE, place, code & 0xFFFF);
                TextRefusals.spoilt(new Run("no board before"), "board", WHOLE, place, code & 0xFFFF);
            }
            boolean letter = place >= 3 && WHOLE.charAt(place) != ';';
            String wrong = letter ? ";" : place >= 3 ? "wkxy" : "wkxy;";
            for (char code : wrong.toCharArray()) TextRefusals.spoilt(new Run("another"), "board", WHOLE, place, code);
        }
        new Run("two faults").text(0, 0, "b13;wzw;").still(-105, "board", 0, 0, 0, 8);
        new Run("a fault ahead of the end").text(0, 0, "b13;z").still(-104, "board", 0, 0, 0, 5);
        new Run("a row too short").text(0, 0, "b22;w;ww").still(-105, "board", 0, 0, 0, 8);
        new Run("a row too long").text(0, 0, "b22;www;w").still(-106, "board", 0, 0, 0, 9);
        new Run("a row too many").text(0, 0, "b12;ww;ww").still(-106, "board", 0, 0, 0, 9);
    }

    private static void highAndWide() {
        for (char side : new char[] {'0', '7', '9', '/', ':', ';', 'w'}) {
            new Run("high " + side).board(OLD).text(0, 0, "b" + side + "1;w").still(-101, "board", 0, 0, 0, 5);
            new Run("wide " + side).board(OLD).text(0, 0, "b1" + side + ";w").still(-102, "board", 0, 0, 0, 5);
        }
    }

    /** "CELLS are numbered from 0 on by rows from above, in a row from the left"; "0 w, 1 k, 2 x, 3 y". */
    private static void numbersOfCells() {
        Run x = new Run("numbers").board("b34;wkxy;kkwx;yyyw");
        int[] letters = {0, 1, 2, 3, 1, 1, 0, 2, 3, 3, 3, 0};
        for (int c = 0; c < 12; c++) x.due(letters[c], "ofCell", c);
        Run most = new Run("most cells").board("b66;wwwwwk;wwwwwx;wwwwwy;kwwwww;xwwwww;ywwwwk");
        int[][] seen = {{0, 0}, {5, 1}, {6, 0}, {11, 2}, {17, 3}, {18, 1}, {24, 2}, {29, 0}, {30, 3}, {31, 0}, {35, 1}};
        for (int[] a : seen) most.due(a[1], "ofCell", a[0]);
        most.still(Run.UNKNOWN, "ofCell", 36);
    }

    /** A BOARD takes the place of the one before, be it larger or smaller. */
    private static void anotherBoard() {
        Run x = new Run("boards").board("b33;xxx;xxx;xxx").board("b12;wk").due(2, "many", 1).due(1, "many", 2);
        x.due(2, "many", 3).due(0, "ofCell", 0).due(1, "ofCell", 1).due(Run.UNKNOWN, "ofCell", 2);
        x.hand("h00100;u11111;a11111").share(0, 1, "hurts", 0, 0, 1).board("b21;y;x").due(3, "ofCell", 0);
        x.due(2, "ofCell", 1).due(Run.UNKNOWN, "ofCell", 2).share(2, 25, "hurts", 0, 0, 1);
    }

    private static void ofCellRefused() {
        new Run("no board").stillEach(Run.UNKNOWN, "ofCell", new int[] {0}, 0, -1, 0, 1, 35, 36, Run.LEAST, Run.MOST);
        Run x = new Run("ofCell").board(OLD).still(0, "ofCell", 0).still(0, "ofCell", 5);
        x.stillEach(Run.UNKNOWN, "ofCell", new int[] {0}, 0, -1, 6, Run.LEAST, Run.MOST);
    }

    /** "up (-2: two CELLS down .. 2: two up), across (-2: two to the left .. 2)": each way to stray alone. */
    private static void oneStray() {
        for (int up = -2; up <= 2; up++) {
            for (int across = -2; across <= 2; across++) {
                String hand = "h00100;u" + only(up) + ";a" + only(across);
                int hit = 5 * (2 - up) + 2 + across;
                StringBuilder cells = new StringBuilder("b55;wwwww;wwwww;wwwww;wwwww;wwwww");
                cells.setCharAt(4 + hit / 5 * 6 + hit % 5, 'x');
                Run x = new Run("strays " + up + " " + across).hand(hand).board(cells.toString()).knife(0, 1, 24, 0);
                x.share(1, 1, "hurts", 12, 0, 0).share(0, 1, "holds", 0, 0, 1, 12, 0).due(2, "ofCell", hit);
                int other = hit == 12 ? 11 : 24 - hit;
                cells.setCharAt(4 + hit / 5 * 6 + hit % 5, 'w');
                cells.setCharAt(4 + other / 5 * 6 + other % 5, 'x');
                x.board(cells.toString()).share(0, 1, "hurts", 12, 0, 0).share(1, 1, "holds", 0, 0, 1, 12, 0);
            }
        }
    }

    private static String only(int d) {
        StringBuilder five = new StringBuilder("00000");
        five.setCharAt(d + 2, '7');
        return five.toString();
    }

    /** "or beside the BOARD": nothing hurts or holds there, and no row goes on in the next. */
    private static void besideTheBoard() {
        for (int d = -2; d <= 2; d++) {
            if (d == 0) continue;
            Run up = new Run("beside, up " + d).hand("h00100;u" + only(d) + ";a00100").board("b22;xx;xx")
                    .knife(0, 1, 24, 0);
            Run across = new Run("beside, " + d).hand("h00100;u00100;a" + only(d)).board("b22;xx;xx")
                    .knife(0, 1, 24, 0);
            for (int c = 0; c < 4; c++) {
                boolean inUp = c / 2 - d >= 0 && c / 2 - d <= 1, inAcross = c % 2 + d >= 0 && c % 2 + d <= 1;
                up.share(inUp ? 1 : 0, 1, "hurts", c, 0, 1);
                across.share(inAcross ? 1 : 0, 1, "hurts", c, 0, 1);
            }
            up.board("b22;ww;ww");
            across.board("b22;ww;ww");
            for (int c = 0; c < 4; c++) {
                boolean inUp = c / 2 - d >= 0 && c / 2 - d <= 1, inAcross = c % 2 + d >= 0 && c % 2 + d <= 1;
                up.share(inUp ? 1 : 0, 1, "holds", 0, 0, 1, c, 0);
                across.share(inAcross ? 1 : 0, 1, "holds", 0, 0, 1, c, 0);
            }
        }
    }

    /** "It HURTS, if that is x, or y while she breathes in". */
    private static void whatHurts() {
        Run x = new Run("what hurts").hand(STRAIGHT).board("b14;wkxy");
        int[][] due = {{0, 0}, {0, 0}, {1, 1}, {0, 1}};
        for (int c = 0; c < 4; c++) x.share(due[c][0], 1, "hurts", c, 0, 0).share(due[c][1], 1, "hurts", c, 0, 1);
    }

    /** In a STAGE all but the middle weights are more, up to 9; shares in least terms. */
    private static void sharesOfHurts() {
        Run x = new Run("shares").hand("h00100;u02460;a00300").board("b33;xxx;wxw;wyw");
        // stage 0: from cell 4 up by 1 (6), by 0 (4), down by 1 (2)
        x.share(1, 1, "hurts", 4, 0, 1).share(5, 6, "hurts", 4, 0, 0).share(1, 2, "hurts", 1, 0, 0)
                .share(1, 2, "hurts", 5, 0, 0);
        Run y = new Run("shares, tired").hand("h00100;u02460;a00300").board("b33;www;wxw;wyw");
        // stage 1: up 1 3 4 7 1, across 1 1 3 1 1: of 16 by 7
        y.share(3, 28, "hurts", 4, 1, 0).share(3, 16, "hurts", 4, 1, 1);
        // stage 9: up 9 9 4 9 9, across 9 9 3 9 9
        y.share(9, 520, "hurts", 7, 9, 0);
    }

    /** "LOST: UNKNOWN; OUTSIDE; STATE: there is no HAND." */
    private static void hurtsRefused() {
        int[] right = {0, 0, 1, 0};
        new Run("hurts without a board").hand(STRAIGHT).still(Run.LOST, "hurts", right);
        new Run("hurts without a hand").board("b11;x").still(Run.LOST, "hurts", right)
                .still(Run.LOST, "hurts", 0, 0, 0, 1);
        Run x = new Run("hurts").hand(STRAIGHT).board("b12;xw").still(1, "hurts", right).still(1, "hurts", 0, 0, 1, 1);
        x.still(1, "hurts", 0, 9, 0, 0).still(0, "hurts", 1, 0, 1, 0).stillEach(Run.LOST, "hurts", right, 0, -1, 2, 36);
        x.stillEach(Run.LOST, "hurts", right, 0, Run.LEAST, Run.MOST).stillEach(Run.LOST, "hurts", right, 1, STAGE);
        x.stillEach(Run.LOST, "hurts", right, 3, WHICH);
    }

    /** "it HOLDS, if that is w, and it STICKS"; "k (too hard, nothing holds)". */
    private static void whatHolds() {
        Run x = new Run("what holds").hand(STRAIGHT).board("b14;wkxy").knife(0, 1, 24, 0).knife(1, 1, 24, 0)
                .knife(2, 1, 24, 0);
        for (int k = 0; k < 3; k++) {
            for (int c = 0; c < 4; c++) {
                x.share(c == 0 ? 1 : 0, 1, "holds", k, 0, 1, c, 0).share(0, 1, "holds", k, 6, 1, c, 0);
                x.share(c == 0 && k == 2 ? 1 : 0, 1, "holds", k, 12, 1, c, 0);
            }
        }
    }

    /** By how START strays, and up, and across. */
    private static void sharesOfHolds() {
        Run x = new Run("shares").hand("h12345;u11000;a00011").board("b33;wkw;kww;wwk").knife(0, 1, 24, 1);
        // from cell 0 to 4, 5, 7 (w), 8 (k); from 3 to 7, 8, and beside; from 8 beside; 3/5 stick
        x.share(9, 20, "holds", 0, 0, 1, 0, 0).share(3, 5, "likely", 0, 0, 1, 0).share(0, 1, "holds", 0, 0, 1, 8, 0);
        x.share(3, 20, "holds", 0, 22, 40, 3, 0);
    }

    /** "LOST: UNKNOWN: KNIFE, CELL; OUTSIDE; STATE: there is no HAND." */
    private static void holdsRefused() {
        int[] right = {0, 0, 1, 0, 0, 0};
        new Run("holds without a knife").hand(STRAIGHT).board("b11;w").still(Run.LOST, "holds", right);
        new Run("holds without a board").hand(STRAIGHT).knife(0, 1, 24, 0).still(Run.LOST, "holds", right);
        new Run("holds without a hand").board("b11;w").knife(0, 1, 24, 0).still(Run.LOST, "holds", right);
        Run x = new Run("holds").hand("h12345;u00100;a00100").board("b12;ww").knife(0, 1, 24, 0)
                .still(1, "holds", right);
        x.still(5, "holds", 0, 0, 1, 1, 0, 1).still(4, "holds", 0, 23, 40, 0, 0, 0)
                .still(10, "holds", 0, 0, 1, 0, 9, 0);
        x.stillEach(Run.LOST, "holds", right, 0, -1, 1, Run.LEAST, Run.MOST);
        x.stillEach(Run.LOST, "holds", right, 1, -1, 24, Run.LEAST, Run.MOST);
        x.stillEach(Run.LOST, "holds", right, 2, 0, 41, Run.LEAST, Run.MOST);
        x.stillEach(Run.LOST, "holds", right, 3, -1, 2, Run.LEAST, Run.MOST);
        x.stillEach(Run.LOST, "holds", right, 4, STAGE).stillEach(Run.LOST, "holds", right, 5, WHICH);
    }
}
