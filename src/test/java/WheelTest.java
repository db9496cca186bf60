/** Part 5 of the document, promises 19 and 20: each sentence that names a boundary. */
public final class WheelTest {
    private static final String STRAIGHT = "h00100;u00100;a00100";
    private static final int[] TICKS = {0, 61, -1, Run.LEAST, Run.MOST};

    private WheelTest() {
    }

    public static void main(String[] args) {
        behindEveryQ();
        quarters();
        lastTick();
        turnedRefused();
        cutUpwards();
        ticksOfTheWheel();
        breath();
        byMostM();
        stage0();
        besideTheWheel();
        fromATick();
        thousandBehind();
        whenRefused();
        Check.end();
    }

    /** "turns by a quarter to the right behind every q ticks (1 .. 60); in tick 0 it is as told". */
    private static void behindEveryQ() {
        // to the right: what was at the left below comes to the left above
        int[] corner = {0, 2, 3, 1};
        for (int q : new int[] {1, 2, 59, 60}) {
            Run x = new Run("behind " + q).board("b22;wk;xy");
            for (int quarter = 0; quarter <= 8; quarter++) {
                x.due(corner[quarter % 4], "turned", 0, q, quarter * q)
                        .due(corner[quarter % 4], "turned", 0, q, quarter * q + q - 1);
            }
        }
    }

    /** Each place of boards of one, two, three, six cells a side. */
    private static void quarters() {
        Run x = new Run("three a side").board("b33;wkx;yww;kkk");
        int[][] seen = {{0, 1, 2, 3, 0, 0, 1, 1, 1}, {1, 3, 0, 1, 0, 1, 1, 0, 2}, {1, 1, 1, 0, 0, 3, 2, 1, 0}, {2, 0, 1, 1, 0, 1, 0, 3, 1}};
        for (int quarter = 0; quarter < 4; quarter++) {
            for (int c = 0; c < 9; c++) x.due(seen[quarter][c], "turned", c, 60, 60 * quarter);
        }
        Run one = new Run("one a side").board("b11;y");
        for (int tick = 0; tick < 5; tick++) one.due(3, "turned", 0, 1, tick);
        Run six = new Run("six a side").board("b66;xwwwwk;wwwwww;wwwwww;wwwwww;wwwwww;ywwwww");
        int[] corners = {0, 5, 35, 30}, letters = {2, 1, 0, 3};
        for (int tick = 0; tick < 4; tick++) {
            for (int corner = 0; corner < 4; corner++) six.due(letters[(corner + 4 - tick) % 4], "turned", corners[corner], 1, tick);
        }
        six.due(Run.UNKNOWN, "turned", 36, 1, 0).due(2, "ofCell", 0);
    }

    /** "in a tick (0 .. 99999)". */
    private static void lastTick() {
        Run x = new Run("last tick").board("b22;wk;xy").still(1, "turned", 0, 1, 99999)
                .still(3, "turned", 0, 60, 99999);
        x.still(2, "turned", 0, 7, 99999).still(0, "turned", 0, 1, 0).still(0, "turned", 0, 60, 0);
    }

    /** "UNKNOWN; OUTSIDE; STATE: the BOARD is not as HIGH as WIDE." */
    private static void turnedRefused() {
        new Run("no board").still(Run.UNKNOWN, "turned", 0, 1, 0).still(Run.UNKNOWN, "turned", 0, 0, -1);
        Run square = new Run("square").board("b22;wk;xy"), wide = new Run("wide")
                .board("b12;wk"), high = new Run("high").board("b21;w;k");
        int[] right = {0, 1, 0};
        for (Run x : new Run[] {square, wide, high}) {
            x.stillEach(Run.UNKNOWN, "turned", right, 0, -1, 4, Run.LEAST, Run.MOST)
                    .still(Run.UNKNOWN, "turned", 4, 0, -1);
            x.stillEach(Run.OUTSIDE, "turned", right, 1, TICKS);
            x.stillEach(Run.OUTSIDE, "turned", right, 2, -1, 100000, Run.LEAST, Run.MOST);
        }
        for (Run x : new Run[] {wide, high}) {
            x.still(Run.STATE, "turned", right).still(Run.STATE, "turned", 1, 60, 99999)
                    .still(Run.UNKNOWN, "turned", 2, 1, 0);
        }
    }

    /** At place 0 she is in the first quarter alone, so that it may be thrown at behind tick q. */
    private static Run turning(String name, String hand) {
        return new Run(name).hand(hand).board("b22;xw;ww").knife(0, 9, 1, 0).knife(0, 1, 1, 0).knife(0, 2, 1, 0);
    }

    /** "comes FEET by PACE (cut upwards) ticks behind it". */
    private static void cutUpwards() {
        Run x = turning("cut upwards", STRAIGHT);
        int[][] flights = {{0, 1, 1}, {0, 8, 1}, {0, 9, 1}, {0, 10, 2}, {0, 18, 2}, {0, 19, 3}, {0, 36, 4}, {0, 37, 5}, {0, 40, 5},
            {1, 1, 1}, {1, 2, 2}, {1, 40, 40}, {2, 1, 1}, {2, 2, 1}, {2, 3, 2}, {2, 40, 20}};
        for (int[] a : flights) x.due(60 - a[2], "when", a[0], a[1], 0, 60, 1, 0, 0, 0);
    }

    /** "at a CELL, as it stands in the room": the place stays, the wheel is that of the tick in which it comes. */
    private static void ticksOfTheWheel() {
        Run x = turning("wheel", STRAIGHT);
        int[][] due = {{0, 0, 4}, {0, 4, 4}, {0, 5, 5}, {0, 18, 18}, {0, 19, 24}, {1, 0, 0}, {1, 3, 3}, {1, 4, 9}, {1, 9, 9},
            {3, 9, 14}, {3, 13, 14}, {2, 14, 19}, {2, 19, 19}};
        for (int[] a : due) x.due(a[2], "when", 0, 9, a[0], 5, 1, 0, 0, a[1]);
        x.due(1, "when", 0, 9, 0, 2, 1, 0, 0, 0).due(0, "when", 0, 9, 0, 1, 1, 0, 0, 0)
                .due(4, "when", 0, 10, 1, 1, 1, 0, 0, 3);
    }

    /** "in ticks whose rest by p (1 .. 60) is below k (0 .. p)". */
    private static void breath() {
        Run x = new Run("breath").hand(STRAIGHT).board("b11;y").knife(0, 9, 1, 0);
        x.due(0, "when", 0, 1, 0, 1, 60, 0, 0, 0).due(Run.NONE, "when", 0, 1, 0, 1, 60, 60, 0, 0);
        x.due(58, "when", 0, 1, 0, 1, 60, 59, 0, 0).due(58, "when", 0, 1, 0, 1, 60, 59, 0, 58)
                .due(118, "when", 0, 1, 0, 1, 60, 59, 0, 59);
        x.due(0, "when", 0, 1, 0, 1, 60, 1, 0, 0).due(60, "when", 0, 1, 0, 1, 60, 1, 0, 59)
                .due(1, "when", 0, 1, 0, 1, 60, 2, 0, 0);
        x.due(0, "when", 0, 1, 0, 1, 1, 0, 0, 0).due(Run.NONE, "when", 0, 1, 0, 1, 1, 1, 0, 0);
        x.board("b11;x").due(Run.NONE, "when", 0, 1, 0, 1, 60, 0, 0, 0).board("b11;k")
                .due(7, "when", 0, 1, 0, 1, 60, 60, 0, 7);
    }

    /** "it HURTS by m thousandths at most". */
    private static void byMostM() {
        Run half = turning("a half", "h00100;u00100;a00110");
        // she is at place 0, then at 1, to either of which the throw comes by a half
        half.due(0, "when", 0, 9, 0, 60, 1, 0, 500, 0).due(119, "when", 0, 9, 0, 60, 1, 0, 499, 0);
        half.due(119, "when", 0, 9, 0, 60, 1, 0, 0, 119).due(239, "when", 0, 9, 0, 60, 1, 0, 500, 239);
        Run third = turning("a third", "h00100;u00100;a00111");
        third.due(0, "when", 0, 9, 0, 60, 1, 0, 334, 0).due(119, "when", 0, 9, 0, 60, 1, 0, 333, 0);
        Run whole = new Run("wholly").hand(STRAIGHT).board("b11;x").knife(0, 9, 1, 0);
        whole.due(0, "when", 0, 9, 0, 60, 1, 0, 1000, 0).due(Run.NONE, "when", 0, 9, 0, 60, 1, 0, 999, 0);
    }

    /** "(STAGE 0)", however late. */
    private static void stage0() {
        Run x = turning("stage 0", STRAIGHT + ";t1").due(59, "when", 0, 9, 0, 60, 1, 0, 999, 0).due(9, "stage", 9999);
        x.due(9999, "when", 0, 9, 0, 60, 1, 0, 0, 9999);
        // breathing in, too: it does not stray to the cells about, nor away from her
        Run in = new Run("stage 0, in").hand(STRAIGHT + ";t1").board("b33;yyy;ywy;yyy").knife(0, 9, 1, 0);
        in.due(9, "when", 0, 9, 4, 1, 60, 60, 0, 9).due(Run.NONE, "when", 0, 9, 0, 1, 60, 60, 999, 9);
        in.due(9, "when", 0, 9, 0, 1, 60, 60, 1000, 9).due(9, "when", 0, 9, 0, 1, 60, 0, 0, 9);
    }

    /** Beside the BOARD nothing hurts, however far the wheel has turned. */
    private static void besideTheWheel() {
        String[] five = {"70000", "07000", "00070", "00007"};
        int[] strays = {-2, -1, 1, 2};
        for (int at = 0; at < 4; at++) {
            Run up = new Run("beside, up").hand("h00100;u" + five[at] + ";a00100").board("b22;xy;yx").knife(0, 9, 1, 0);
            Run across = new Run("beside").hand("h00100;u00100;a" + five[at]).board("b22;xy;yx").knife(0, 9, 1, 0);
            for (int c = 0; c < 4; c++) {
                int row = c / 2 - strays[at], column = c % 2 + strays[at];
                for (int from = 0; from < 240; from += 60) {
                    up.due(row < 0 || row > 1 ? from : Run.NONE, "when", 0, 1, c, 60, 1, 1, 0, from);
                    across.due(column < 0 || column > 1 ? from : Run.NONE, "when", 0, 1, c, 60, 1, 1, 0, from);
                }
            }
        }
    }

    /** "the first tick t from a told one on (0 .. 9999". */
    private static void fromATick() {
        Run x = new Run("from").hand(STRAIGHT).board("b11;w").knife(0, 9, 1, 0);
        x.still(0, "when", 0, 1, 0, 1, 1, 0, 0, 0).still(9999, "when", 0, 1, 0, 1, 1, 0, 0, 9999);
        Run y = turning("from, turning", STRAIGHT).due(10019, "when", 0, 9, 3, 60, 1, 0, 0, 9999);
        y.due(9999, "when", 0, 9, 0, 60, 1, 0, 0, 9999);
    }

    /** "; to 1000 behind it": the thousandth is tried yet. */
    private static void thousandBehind() {
        Run x = new Run("a thousand").hand(STRAIGHT).board("b22;yx;xx").knife(0, 1, 1, 0);
        // harmless where the rest by 59 is 58 and that by 60 below 15: in tick 2654 again
        x.due(2653, "when", 0, 1, 0, 15, 59, 58, 0, 1653).due(Run.NONE, "when", 0, 1, 0, 15, 59, 58, 0, 1652);
        x.due(2652, "when", 0, 2, 0, 15, 59, 58, 0, 1652).due(Run.NONE, "when", 0, 3, 0, 15, 59, 58, 0, 1650);
        // from the last tick on: where the rest by 49 is 48 and that by 100 below 25, in tick 11024
        x.due(10999, "when", 0, 25, 0, 25, 49, 48, 0, 9999).due(Run.NONE, "when", 0, 24, 0, 25, 49, 48, 0, 9999);
    }

    /** "UNKNOWN: KNIFE, CELL; OUTSIDE: FEET, q, p, k, m, from; STATE: there is no HAND, the BOARD is not as HIGH as WIDE." */
    private static void whenRefused() {
        int[] right = {0, 1, 0, 1, 60, 0, 0, 0};
        Run all = new Run("when").hand(STRAIGHT).board("b22;ww;ww").knife(0, 1, 1, 0).still(0, "when", right);
        Run noHand = new Run("when without a hand").board("b22;ww;ww").knife(0, 1, 1, 0)
                .still(Run.STATE, "when", right);
        Run wide = new Run("when wide").hand(STRAIGHT).board("b14;wwww").knife(0, 1, 1, 0)
                .still(Run.STATE, "when", right);
        Run high = new Run("when high").hand(STRAIGHT).board("b41;w;w;w;w").knife(0, 1, 1, 0)
                .still(Run.STATE, "when", right);
        Run neither = new Run("when, neither").board("b14;wwww").knife(0, 1, 1, 0).still(Run.STATE, "when", right);
        for (Run x : new Run[] {all, noHand, wide, high, neither}) {
            x.stillEach(Run.UNKNOWN, "when", right, 0, -1, 1, Run.LEAST, Run.MOST);
            x.stillEach(Run.UNKNOWN, "when", right, 2, -1, 4, Run.LEAST, Run.MOST);
            x.still(Run.UNKNOWN, "when", 1, 0, 0, 0, 0, 0, 0, 0).still(Run.UNKNOWN, "when", 0, 0, 4, 0, 0, -1, -1, -1);
            x.stillEach(Run.OUTSIDE, "when", right, 1, 0, 41, -1, Run.LEAST, Run.MOST);
            x.stillEach(Run.OUTSIDE, "when", right, 3, TICKS).stillEach(Run.OUTSIDE, "when", right, 4, TICKS);
            x.stillEach(Run.OUTSIDE, "when", right, 5, -1, 61, Run.LEAST, Run.MOST);
            x.stillEach(Run.OUTSIDE, "when", new int[] {0, 1, 0, 1, 5, 0, 0, 0}, 5, -1, 6, 60);
            x.stillEach(Run.OUTSIDE, "when", right, 6, -1, 1001, Run.LEAST, Run.MOST);
            x.stillEach(Run.OUTSIDE, "when", right, 7, -1, 10000, Run.LEAST, Run.MOST);
        }
        all.still(0, "when", 0, 40, 3, 60, 60, 60, 1000, 0).still(9999, "when", 0, 1, 0, 1, 5, 5, 0, 9999);
        new Run("no knife").hand(STRAIGHT).board("b11;w").still(Run.UNKNOWN, "when", right);
        new Run("no board").hand(STRAIGHT).knife(0, 1, 1, 0).still(Run.UNKNOWN, "when", right);
    }
}
