/** Part 4 of the document, promises 16 to 18: each sentence that names a boundary. */
public final class RulesTest {
    private static final String STRAIGHT = "h00100;u00100;a00100";

    private RulesTest() {
    }

    public static void main(String[] args) {
        noMoreThan();
        inAndOut();
        woodAlone();
        cellsTo30();
        rulesRefused();
        mostAbout();
        noneAllowed();
        fewerThanSix();
        firstAsARow();
        millionthsCut();
        stagesOfThrows();
        orderRefused();
        onceInThisCall();
        Check.end();
    }

    /** "HURTS by no more than m thousandths"; "m (0 .. 1000 thousandths)". */
    private static void noMoreThan() {
        Run half = new Run("a half").hand("h00100;u00100;a00110").board("b13;wxw");
        half.due(0b101, "allowed", 500, 0).due(0b100, "allowed", 499, 0).due(0b100, "allowed", 0, 0);
        half.due(0, "nearest", 500, 0).due(2, "nearest", 499, 0);
        Run third = new Run("a third").hand("h00100;u00100;a00111").board("b13;wxw");
        third.due(0b101, "allowed", 334, 0).due(0b100, "allowed", 333, 0);
        Run whole = new Run("wholly").hand("h00100;u00100;a00010").board("b13;wxw");
        whole.due(0b101, "allowed", 1000, 0).due(0b100, "allowed", 999, 0);
        // stage 9: up 9 9 1 9 9, across 9 9 0 1 0 become 9 9 0 9 9: 9 of 37 times 36
        whole.due(0b101, "allowed", 7, 9).due(0, "allowed", 6, 9);
    }

    /** "in and out of breath alike". */
    private static void inAndOut() {
        Run x = new Run("in and out").hand("h00100;u00100;a00110").board("b13;wyw");
        x.due(0b100, "allowed", 499, 0).due(0b101, "allowed", 500, 0).due(2, "nearest", 499, 0)
                .due(0, "nearest", 500, 0);
    }

    /** "CELLS of wood". */
    private static void woodAlone() {
        Run x = new Run("wood").hand(STRAIGHT).board("b22;wk;xy").due(1, "allowed", 1000, 0).due(1, "allowed", 0, 0);
        x.due(0, "nearest", 1000, 0).board("b22;kx;yk").due(0, "allowed", 1000, 9).due(Run.NONE, "nearest", 1000, 9);
    }

    /** "as a set of CELLS 0 .. 30": those behind are ALLOWED, but not told. */
    private static void cellsTo30() {
        Run x = new Run("to 30").hand(STRAIGHT).board("b66;wwwwww;wwwwww;wwwwww;wwwwww;wwwwww;wwwwww");
        x.due(Run.MOST, "allowed", 0, 0).due(0, "nearest", 0, 0);
        Run y = new Run("from 30 on").hand(STRAIGHT).board("b66;kkkkkk;kkkkkk;kkkkkk;kkkkkk;kkkkkk;wwwwww");
        y.due(1 << 30, "allowed", 0, 0).due(30, "nearest", 0, 0);
        Run z = new Run("from 31 on").hand(STRAIGHT).board("b66;kkkkkk;kkkkkk;kkkkkk;kkkkkk;kkkkkk;kkkkkw");
        z.due(0, "allowed", 0, 0).due(35, "nearest", 0, 0);
        Run least = new Run("one cell").hand(STRAIGHT).board("b11;w").due(1, "allowed", 0, 0).due(0, "nearest", 0, 0);
        least.board("b56;kkkkkk;kkkkkk;kkkkkk;kkkkkk;kkkkkw").due(1 << 29, "allowed", 0, 0);
    }

    /** "OUTSIDE: m, STAGE; STATE: there is no HAND, no BOARD"; "All as allowed()". */
    private static void rulesRefused() {
        Run[] bare = {new Run("neither"), new Run("no board").hand(STRAIGHT), new Run("no hand").board("b11;w")};
        Run both = new Run("both").hand(STRAIGHT).board("b11;w");
        for (String call : new String[] {"allowed", "nearest"}) {
            for (Run x : new Run[] {bare[0], bare[1], bare[2], both}) {
                x.stillEach(Run.OUTSIDE, call, new int[] {0, 0}, 0, -1, 1001, Run.LEAST, Run.MOST);
                x.stillEach(Run.OUTSIDE, call, new int[] {0, 0}, 1, -1, 10, Run.LEAST, Run.MOST);
            }
            for (Run x : bare) x.still(Run.STATE, call, 0, 0).still(Run.STATE, call, 1000, 9);
        }
        both.still(1, "allowed", 0, 0).still(1, "allowed", 1000, 9).still(0, "nearest", 0, 0)
                .still(0, "nearest", 1000, 9);
    }

    /** "the most CELLS of hers (x, y) among the up to eight about it; of several the least number". */
    private static void mostAbout() {
        // wood is cell 0, with none of hers about it, and cell 21; hers is one cell, near or a cell farther
        for (int down = -2; down <= 2; down++) {
            for (int across = -2; across <= 2; across++) {
                if (down == 0 && across == 0) continue;
                boolean about = Math.abs(down) <= 1 && Math.abs(across) <= 1;
                for (char her : new char[] {'x', 'y'}) {
                    StringBuilder text = new StringBuilder("b66;wkkkkk;kkkkkk;kkkkkk;kkkwkk;kkkkkk;kkkkkk");
                    text.setCharAt(4 + (3 + down) * 7 + 3 + across, her);
                    new Run("about").hand(STRAIGHT).board(text.toString()).due(about ? 21 : 0, "nearest", 0, 0);
                }
            }
        }
        new Run("no row goes on").hand(STRAIGHT).board("b33;wkx;wkk;kkk").due(0, "nearest", 0, 0);
        new Run("no row goes back").hand(STRAIGHT).board("b33;wkk;kkw;xkk").due(0, "nearest", 0, 0);
        new Run("eight, not seven").hand(STRAIGHT).board("b36;xyxxyx;xwkywx;xxxyxy").due(10, "nearest", 0, 0);
        new Run("least number").hand(STRAIGHT).board("b33;wxw;xwx;wxw").due(4, "nearest", 0, 0).board("b13;wxw")
                .due(0, "nearest", 0, 0);
        new Run("none about").hand(STRAIGHT).board("b22;kw;ww").due(1, "nearest", 0, 0);
        // at cell 2 a throw hurts by a half: then cell 0, with fewer of hers about it
        Run x = new Run("of these").hand("h00100;u00100;a00110").board("b24;wkwx;kxkx");
        x.due(2, "nearest", 500, 0).due(0, "nearest", 499, 0);
    }

    /** "NONE: none is ALLOWED." */
    private static void noneAllowed() {
        new Run("none by m").hand("h00100;u00100;a00010").board("b12;wx").still(0, "allowed", 999, 0)
                .still(Run.NONE, "nearest", 999, 0);
        new Run("none of wood").hand(STRAIGHT).board("b12;kx").still(0, "allowed", 1000, 0)
                .still(Run.NONE, "nearest", 1000, 0);
    }

    /** "the sum (q -1), the q-th CELL (0 on); NONE: there are fewer"; "1 to 6 CELLS". */
    private static void fewerThanSix() {
        Run x = new Run("fewer").hand(STRAIGHT).board("b16;wwwwww").row(0, 0, 5, 4, 3, 2, 1, 0);
        for (int n = 1; n <= 6; n++) {
            x.still(0, "order", 0, 0, 0, 0, n, -1);
            for (int q = 0; q <= 5; q++) x.still(q < n ? 6 - n + q : Run.NONE, "order", 0, 0, 0, 0, n, q);
        }
    }

    /** "of several the first as a row". */
    private static void firstAsARow() {
        Run x = new Run("rows").hand("h00100;u00100;a00100;t1").board("b14;wwwx").row(0, 0, 2, 1).row(1, 1, 1, 2);
        // cells 1 and 2 hurt alike in each stage
        for (int k = 0; k < 2; k++) {
            x.due(1, "order", 1, k, k, 0, 2, 0).due(2, "order", 1, k, k, 0, 2, 1)
                    .due(64691, "order", 1, k, k, 0, 2, -1);
        }
        // cell 3 hurts wholly ahead of tiring: it is not the first to be thrown at, though 0 is late by that, too
        x.row(2, 2, 3, 0).due(0, "order", 0, 2, 2, 0, 2, 0).due(3, "order", 0, 2, 2, 0, 2, 1)
                .due(40000, "order", 0, 2, 2, 0, 2, -1);
    }

    /** "each in millionths, cut"; "as she breathes in". */
    private static void millionthsCut() {
        Run x = new Run("thirds").hand("h00100;u00100;a00111").board("b33;wyw;wxw;wyw").row(0, 0, 0, 3, 6);
        x.due(333333, "order", 0, 0, 0, 0, 1, -1).due(666666, "order", 0, 0, 0, 0, 2, -1)
                .due(999999, "order", 0, 0, 0, 0, 3, -1);
        Run whole = new Run("six wholly").hand(STRAIGHT).board("b23;xyx;yxy").row(0, 2, 0, 1, 2, 3, 4, 5);
        whole.due(6000000, "order", 0, 0, 2, 0, 6, -1).due(5, "order", 9999, 0, 2, 0, 6, 5);
        new Run("never").hand(STRAIGHT).board("b12;wk").row(0, 2, 1, 0).due(0, "order", 0, 0, 2, 0, 2, -1)
                .due(0, "order", 0, 0, 2, 0, 2, 0);
    }

    /** "from the n-th throw on": its STAGE, that of each behind it; "the first-th throw (0 .. 9999)". */
    private static void stagesOfThrows() {
        // cell 0 hurts wholly in stage 0, in stage s by 1 of (4 s and 1) squared; cell 1 by s of them
        Run x = new Run("stages").hand("h00100;u00100;a00100;t9").board("b12;xw").row(0, 0, 0, 1);
        x.due(1000000, "order", 0, 0, 0, 0, 1, -1).due(1000000, "order", 8, 0, 0, 0, 1, -1)
                .due(40000, "order", 9, 0, 0, 0, 1, -1);
        x.due(1000000, "order", 7, 0, 0, 0, 2, -1).due(0, "order", 7, 0, 0, 0, 2, 0);
        x.due(40000, "order", 8, 0, 0, 0, 2, -1).due(1, "order", 8, 0, 0, 0, 2, 0).due(0, "order", 8, 0, 0, 0, 2, 1);
        x.due(80000, "order", 9, 0, 0, 0, 2, -1).due(0, "order", 9, 0, 0, 0, 2, 0);
        // stage 9 at last: 1 and 9 of 1369
        x.due(730, "order", 9999, 0, 0, 0, 1, -1).due(730 + 6574, "order", 9999, 0, 0, 0, 2, -1);
        x.due(730 + 6574, "order", 81, 0, 0, 0, 2, -1).due(918, "order", 80, 0, 0, 0, 1, -1);
        Run without = new Run("without tires").hand(STRAIGHT).board("b12;xw").row(0, 0, 0, 1);
        without.due(1000000, "order", 9999, 0, 0, 0, 2, -1).due(0, "order", 9999, 0, 0, 0, 2, 0);
    }

    /** The refusals of order() in their order. */
    private static void orderRefused() {
        int[] right = {0, 0, 0, 0, 1, 0};
        TextRefusals.faults(new Run("order"), "order", 1, right);
        TextRefusals.faults(new Run("order").hand(STRAIGHT).board("b11;w"), "order", 1, right);
        TextRefusals.faults(new Run("order, all behind wrong").hand(STRAIGHT), "order", 1, 0, 0, 0, 0, 0, 6);
        Run x = new Run("refused").hand(STRAIGHT).board("b16;wwwwww").row(0, 0, 0, 1, 2, 3, 4, 5, 0, 6, -1, 7, 7, 1);
        refusedFirst(x);
        // OUTSIDE: n, ahead of UNKNOWN: a CELL
        x.still(Run.OUTSIDE, "order", 0, 0, 0, 0, 0, 0).still(Run.OUTSIDE, "order", 0, 0, 0, 12, 0, 0);
        x.still(Run.OUTSIDE, "order", 0, 0, 0, 0, 7, 0).still(Run.OUTSIDE, "order", 0, 0, 0, 3, 7, 6)
                .still(Run.OUTSIDE, "order", 0, 0, 0, 0, 12, 0);
        // UNKNOWN: a CELL, ahead of OUTSIDE: one is told twice, wherever it stands
        x.still(Run.UNKNOWN, "order", 0, 0, 0, 7, 1, 0).still(Run.UNKNOWN, "order", 0, 0, 0, 8, 1, 0);
        x.still(Run.UNKNOWN, "order", 0, 0, 0, 9, 2, 0).still(Run.UNKNOWN, "order", 0, 0, 0, 2, 6, 9)
                .still(Run.UNKNOWN, "order", 0, 0, 0, 10, 2, -2);
        // OUTSIDE: one is told twice, ahead of UNKNOWN: q
        x.row(1, 1, 3, 3, 1, 2, 4, 3, 0).still(Run.OUTSIDE, "order", 0, 1, 1, 0, 2, 0)
                .still(Run.OUTSIDE, "order", 0, 1, 1, 1, 5, 6);
        x.still(Run.OUTSIDE, "order", 0, 1, 1, 0, 6, -2).still(0, "order", 0, 1, 1, 2, 5, 0)
                .still(1, "order", 0, 1, 1, 1, 4, 0);
        // told twice ahead of a CELL that is none
        x.row(1, 1, 3, 3, 6).still(Run.UNKNOWN, "order", 0, 1, 1, 0, 3, 0)
                .still(Run.OUTSIDE, "order", 0, 1, 1, 0, 2, 9);
        x.stillEach(Run.UNKNOWN, "order", right, 5, -2, 6, Run.LEAST, Run.MOST).still(0, "order", right);
        orderState();
    }

    /** "(each but once)": of the cells of this call, not of those of one before. */
    private static void onceInThisCall() {
        Run x = new Run("once").hand(STRAIGHT).board("b16;wwwwww").row(0, 0, 4, 1, 4, 0, 1, 3);
        x.due(Run.OUTSIDE, "order", 0, 0, 0, 0, 6, 0).due(1, "order", 0, 0, 0, 0, 2, 0).due(4, "order", 0, 0, 0, 0, 2, 1);
        x.due(Run.OUTSIDE, "order", 0, 0, 0, 0, 3, 0).due(0, "order", 0, 0, 0, 1, 3, 0).due(4, "order", 0, 0, 0, 2, 1, 0);
        x.due(Run.NONE, "order", 0, 0, 0, 2, 1, 1).due(4, "order", 0, 0, 0, 2, 4, 3);
    }

    /** OUTSIDE: first, ahead of CAST, NULL, SIZE, INDEX. */
    private static void refusedFirst(Run x) {
        int[][] behind = {{0, 0, 0, 0, 1, 0}, {0, 0, 1, 0, 1, 0}, {0, 3, 0, 0, 1, 0}, {0, 0, 0, 0, -1, 0}, {0, 0, 0, 0, 99, 0}};
        for (int[] a : behind) x.stillEach(Run.OUTSIDE, "order", a, 0, -1, 10000, Run.LEAST, Run.MOST);
        x.still(Run.UNKNOWN, "order", -1, 4, 0, 0, 1, 0).still(Run.UNKNOWN, "order", 10000, -1, 3, 0, 1, 0);
        x.still(0, "order", 0, 0, 0, 0, 1, 0).still(0, "order", 9999, 0, 0, 0, 6, 0)
                .still(5, "order", 9999, 0, 0, 0, 6, 5);
    }

    /** "STATE: there is no HAND", behind all others; without a BOARD there is no CELL. */
    private static void orderState() {
        Run none = new Run("order without a hand").board("b12;ww").row(0, 0, 0, 1, 1, 2)
                .still(Run.STATE, "order", 0, 0, 0, 0, 2, 0);
        none.still(Run.STATE, "order", 9999, 0, 0, 0, 1, -1).still(Run.STATE, "order", 0, 0, 0, 0, 1, 5);
        none.still(Run.UNKNOWN, "order", 0, 0, 0, 0, 2, 6).still(Run.UNKNOWN, "order", 0, 0, 0, 0, 2, -2);
        none.still(Run.OUTSIDE, "order", 0, 0, 0, 1, 2, 0).still(Run.UNKNOWN, "order", 0, 0, 0, 3, 1, 0)
                .still(Run.OUTSIDE, "order", 0, 0, 0, 0, 0, 0);
        new Run("order without a board").hand(STRAIGHT).row(0, 0, 0).still(Run.UNKNOWN, "order", 0, 0, 0, 0, 1, 0);
    }
}
