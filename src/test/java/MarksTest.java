/** Part 6 of the document, promises 21 to 26: each sentence that names a boundary. */
public final class MarksTest {
    private static final int[] WHICH = {-1, 2, Run.LEAST, Run.MOST};

    private MarksTest() {
    }

    public static void main(String[] args) {
        tenAtMost();
        markRefused();
        takenBack();
        noMarks();
        thrown();
        byPaceAndWidth();
        firstThrown();
        guessedRefused();
        tells();
        noneIsLeft();
        chalkMeans();
        chalkOfForty();
        farthestChalk();
        chalkRefused();
        byChalk();
        byChalkRefused();
        Check.end();
    }

    private static Run marked(String name, int marks) {
        Run x = new Run(name).knife(0, 1, 1, 0);
        for (int m = 0; m < marks; m++) x.due(m, "mark", m + 1, m % 4);
        return x;
    }

    /** "MARKS, 10 at most, numbered by how many there are"; "OUTSIDE; FULL". */
    private static void tenAtMost() {
        Run x = marked("ten", 10).due(10, "many", 4).still(Run.FULL, "mark", 1, 0).still(Run.FULL, "mark", 40, 3);
        x.still(Run.OUTSIDE, "mark", 0, 0).still(Run.OUTSIDE, "mark", 41, 0).still(Run.OUTSIDE, "mark", 1, -1)
                .still(Run.OUTSIDE, "mark", 1, 4);
        x.due(9, "back", 1).due(9, "mark", 5, 2).due(0, "back", 10).due(0, "mark", 1, 1).due(1, "mark", 1, 1)
                .due(1, "back", 1).due(1, "mark", 2, 2);
        marked("nine", 9).due(9, "many", 4).due(9, "mark", 1, 0).due(Run.FULL, "mark", 1, 0).due(10, "many", 4);
    }

    /** "at FEET f it came as told (0 .. 3)". */
    private static void markRefused() {
        Run x = marked("mark", 2).stillEach(Run.OUTSIDE, "mark", new int[] {1, 0}, 0, 0, 41, -1, Run.LEAST, Run.MOST);
        x.stillEach(Run.OUTSIDE, "mark", new int[] {1, 0}, 1, -1, 4, Run.LEAST, Run.MOST);
        x.due(2, "mark", 1, 0).due(3, "mark", 40, 3).due(4, "many", 4);
    }

    /** "The last k MARKS (0 .. as many as there are) are taken back: how many are left. OUTSIDE." */
    private static void takenBack() {
        Run none = new Run("no marks").still(0, "back", 0)
                .stillEach(Run.OUTSIDE, "back", new int[] {0}, 0, -1, 1, Run.LEAST, Run.MOST);
        none.due(0, "back", 0);
        Run x = marked("back", 3).still(3, "back", 0)
                .stillEach(Run.OUTSIDE, "back", new int[] {0}, 0, -1, 4, 10, Run.LEAST, Run.MOST);
        x.due(2, "back", 1).due(2, "many", 4).still(Run.OUTSIDE, "back", 3).due(0, "back", 2)
                .still(Run.OUTSIDE, "back", 1);
        // the last ones, not the first: the mark that is left is POINT at 1 foot
        Run last = new Run("the last").knife(0, 1, 1, 0).due(0, "mark", 1, 0).due(1, "mark", 1, 3)
                .due(0, "guessed", 0, 0).due(1, "back", 1);
        last.due(24, "guessed", 0, 0).due(24, "guessed", 0, 1);
    }

    /** Without MARKS all 24 times 24 are THROWN. */
    private static void noMarks() {
        new Run("no marks").knife(2, 9, 24, 5).due(576, "guessed", 0, 0).due(1, "guessed", 0, 1);
    }

    /** "of START 0 .. 23 and TURN 1 .. 24 those by which all MARKS would be so". */
    private static void thrown() {
        // WIDTH 0, PACE 1, POINT at 1 foot: START and TURN make 24: START 0 and TURN 24 first, 23 and 1 last
        Run x = new Run("point").knife(0, 1, 7, 0).due(0, "mark", 1, 0).due(24, "guessed", 0, 0)
                .due(24, "guessed", 0, 1);
        // BUTT at 2 feet as well: TURN 12
        x.due(1, "mark", 2, 1).due(1, "guessed", 0, 0).due(1212, "guessed", 0, 1);
        // GLANCES at 1 foot: START 0 with TURN 1, 2, 3, 9 .. is the first
        new Run("glances").knife(0, 1, 7, 0).due(0, "mark", 1, 3).due(12 * 24, "guessed", 0, 0).due(1, "guessed", 0, 1);
        new Run("flat").knife(0, 1, 7, 0).due(0, "mark", 1, 2).due(10 * 24, "guessed", 0, 0).due(4, "guessed", 0, 1);
        new Run("butt").knife(0, 1, 7, 0).due(0, "mark", 1, 1).due(24, "guessed", 0, 0).due(12, "guessed", 0, 1);
        // POINT at 39 and 40 feet: TURN is 24, START 0
        Run far = new Run("far").knife(0, 1, 7, 0).due(0, "mark", 40, 0).due(1, "mark", 39, 0).due(1, "guessed", 0, 0)
                .due(24, "guessed", 0, 1);
        far.due(2, "mark", 39, 0).due(1, "guessed", 0, 0).due(3, "mark", 39, 1).due(0, "guessed", 0, 0)
                .due(Run.NONE, "guessed", 0, 1);
    }

    /** "by PACE and WIDTH of a KNIFE": not by its TURN, nor by what sticks. */
    private static void byPaceAndWidth() {
        Run x = new Run("pace and width").knife(0, 9, 1, 0).knife(0, 9, 24, 0).knife(1, 1, 1, 0).knife(2, 1, 1, 0)
                .knife(0, 1, 1, 1);
        x.due(0, "mark", 1, 0);
        // by ninths it is straight from 1 foot by TURN 9 and 18 alone
        x.due(2, "guessed", 0, 0).due(2, "guessed", 1, 0).due(2218, "guessed", 0, 1).due(2218, "guessed", 1, 1);
        for (int k = 2; k <= 4; k++) x.due(72, "guessed", k, 0).due(1, "guessed", k, 1);
    }

    /** "the first, by START, then by TURN, as 100 times START and TURN (1; NONE)". */
    private static void firstThrown() {
        // POINT at 1 foot, BUTT at 13: TURN by 12 feet is 12 and whole turns: TURN odd, START 24 less it
        new Run("first").knife(0, 1, 7, 0).due(0, "mark", 1, 0).due(1, "mark", 13, 1).due(12, "guessed", 0, 0)
                .due(123, "guessed", 0, 1);
        // START and TURN together no farther than 5 from 24
        new Run("many").knife(0, 9, 7, 5).due(0, "mark", 9, 0).due(24 * 11, "guessed", 0, 0).due(1, "guessed", 0, 1);
    }

    /** "UNKNOWN; OUTSIDE", of guessed and tells. */
    private static void guessedRefused() {
        for (String call : new String[] {"guessed", "tells"}) {
            new Run("no knife").due(0, "mark", 1, 0).still(Run.UNKNOWN, call, 0, 0).still(Run.UNKNOWN, call, 0, 2);
            Run x = marked(call, 1).stillEach(Run.UNKNOWN, call, new int[] {0, 0}, 0, -1, 1, Run.LEAST, Run.MOST);
            x.still(Run.UNKNOWN, call, 1, 2).stillEach(Run.OUTSIDE, call, new int[] {0, 0}, 1, WHICH);
            // none left is told behind the refusals
            Run none = new Run(call + ", none left").knife(0, 1, 1, 0).due(0, "mark", 1, 0).due(1, "mark", 1, 1);
            none.still(Run.UNKNOWN, call, 1, 0).still(Run.OUTSIDE, call, 0, 2).still(Run.OUTSIDE, call, 0, -1)
                    .still(Run.NONE, call, 0, 1);
        }
        marked("guessed", 1).still(24, "guessed", 0, 0).still(24, "guessed", 0, 1).still(2, "tells", 0, 0)
                .still(12, "tells", 0, 1);
    }

    /** "the fewest of them, at the worst (however it came); of several the least"; of FEET 1 .. 40. */
    private static void tells() {
        // of all 576, WIDTH 0, PACE 1: from each foot 24 POINT, 24 BUTT, 240 FLAT, 288 glance: the least feet, 1
        new Run("all alike").knife(0, 1, 1, 0).due(1, "tells", 0, 0).due(288, "tells", 0, 1);
        // 24 of START and TURN together 24; from 1 foot all are POINT, from 2 feet they lie by TURN: 1, 1, 10, 12
        new Run("two feet").knife(0, 1, 1, 0).due(0, "mark", 1, 0).due(2, "tells", 0, 0).due(12, "tells", 0, 1);
        // FLAT from 8 feet: START and TURN together 6 or 18; from 40 they lie 4 TURN farther: 16 POINT, BUTT, FLAT each
        new Run("forty feet").knife(0, 8, 1, 5).due(0, "mark", 8, 2).due(48, "guessed", 0, 0).due(40, "tells", 0, 0)
                .due(16, "tells", 0, 1);
        // one is left: any feet tell as much
        new Run("one left").knife(0, 1, 1, 0).due(0, "mark", 1, 0).due(1, "mark", 2, 0).due(1, "tells", 0, 0)
                .due(1, "tells", 0, 1);
    }

    /** "NONE: none is left now." */
    private static void noneIsLeft() {
        Run x = new Run("none left").knife(0, 1, 1, 0).due(0, "mark", 1, 0).due(1, "mark", 1, 1);
        x.still(Run.NONE, "tells", 0, 0).still(Run.NONE, "tells", 0, 1).still(0, "guessed", 0, 0)
                .still(Run.NONE, "guessed", 0, 1);
        x.due(1, "back", 1).still(2, "tells", 0, 0).still(12, "tells", 0, 1);
    }

    /** "MEAN of up (0), across (1); how far in all, without signs (2, 3)"; "Of 2, 3 the lower number is 1". */
    private static void chalkMeans() {
        Run x = new Run("means").row(0, 0, 7, 4, -99, -6, 99, 2, 0, -3, -12, 7);
        x.share(4, 1, "chalk", 0, 0, 1, 1, 0).share(-99, 1, "chalk", 0, 0, 1, 1, 1).share(4, 1, "chalk", 0, 0, 1, 1, 2)
                .share(99, 1, "chalk", 0, 0, 1, 1, 3);
        x.share(-3, 4, "chalk", 0, 0, 1, 4, 0).share(-3, 1, "chalk", 0, 0, 1, 4, 1).share(15, 1, "chalk", 0, 0, 1, 4, 2)
                .share(210, 1, "chalk", 0, 0, 1, 4, 3);
        // a mean of 0 is 0 by 1, below 0 the upper number has the sign; without signs there is no mean
        x.share(0, 1, "chalk", 0, 0, 1, 3, 0).share(0, 1, "chalk", 0, 0, 1, 2, 1).share(-1, 1, "chalk", 0, 0, 1, 2, 0)
                .share(12, 1, "chalk", 0, 0, 1, 3, 2);
        x.share(10, 1, "chalk", 0, 0, 1, 2, 2).share(198, 1, "chalk", 0, 0, 1, 2, 3)
                .share(-1, 2, "chalk", 0, 0, 5, 2, 0).share(-6, 1, "chalk", 0, 0, 5, 2, 1);
    }

    /** "n is not 1 .. 40". */
    private static void chalkOfForty() {
        Run x = new Run("forty").due(1, "sheet", 0, 2, 80).due(1, "put", 0, 79, 99).due(1, "put", 0, 0, -99);
        x.share(-99, 40, "chalk", 0, 2, 0, 40, 0).share(99, 40, "chalk", 0, 2, 0, 40, 1)
                .share(99, 1, "chalk", 0, 2, 0, 40, 2).share(33, 13, "chalk", 0, 2, 2, 39, 1);
        x.due(Run.LOST, "chalk", 0, 2, 0, 0, 0, 0).due(0, "fault").due(Run.LOST, "chalk", 0, 2, 80, 0, 0, 0)
                .due(0, "fault");
        x.due(Run.LOST, "chalk", 0, 2, 81, 0, 0, 0).due(3, "fault").due(Run.LOST, "chalk", 0, 2, 0, 41, 0, 0)
                .due(3, "fault");
        x.due(Run.LOST, "chalk", 0, 2, 1, 40, 0, 0).due(3, "fault").due(Run.LOST, "chalk", 0, 2, 2, 40, 0, 0)
                .due(3, "fault");
        Run full = new Run("forty, full").due(1, "sheet", 0, 1, 80);
        for (int i = 0; i < 80; i++) full.due(1, "put", 0, i, i % 2 == 0 ? -99 : 99);
        full.share(-99, 1, "chalk", 0, 1, 0, 40, 0).share(99, 1, "chalk", 0, 1, 0, 40, 1)
                .share(3960, 1, "chalk", 0, 1, 0, 40, 2).share(3960, 1, "chalk", 0, 1, 0, 40, 3);
    }

    /** "two numbers (-99 .. 99)"; a number that is not among the rows is not looked at. */
    private static void farthestChalk() {
        for (int wrong : new int[] {-100, 100, Run.LEAST, Run.MOST, 65536}) {
            for (int place = 0; place < 4; place++) {
                Run x = new Run("farthest").row(0, 2, 99, -99, -99, 99, 100).due(1, "put", 0, place, wrong);
                for (int what = 0; what < 4; what++) x.lost(0, "chalk", 0, 2, 0, 2, what, what % 2);
                if (place < 2) x.due(-99, "chalk", 0, 2, 2, 1, 0, 0);
                else x.due(99, "chalk", 0, 2, 0, 1, 0, 0);
            }
        }
        // the last number of many rows, too
        for (int n = 3; n <= 40; n++) {
            Run many = new Run("farthest of " + n).due(1, "sheet", 0, 1, 80).due(1, "put", 0, 2 * n - 1, 100);
            many.due(Run.LOST, "chalk", 0, 1, 0, n, 0, 0).due(0, "chalk", 0, 1, 0, n - 1, 0, 0);
            many.due(1, "put", 0, 2 * n - 1, 99).share(99, 1, "chalk", 0, 1, 0, n, 3);
        }
        Run bytes = new Run("bytes").row(0, 0, 100, -100, 156, 0).lost(0, "chalk", 0, 0, 0, 1, 0, 0)
                .lost(0, "chalk", 0, 0, 2, 1, 0, 0);
        bytes.due(1, "put", 0, 2, 256 - 99).due(-99, "chalk", 0, 0, 2, 1, 0, 0);
    }

    /** "UNKNOWN: SHEET; OUTSIDE: sort; FAULTS CAST, NULL, SIZE, INDEX: 2 n cells; OUTSIDE: n is not 1 .. 40, a number, what, which." */
    private static void chalkRefused() {
        TextRefusals.faults(new Run("chalk"), "chalk", 0, 0, 0, 0, 1, 0, 0);
        TextRefusals.faults(new Run("chalk, what and which wrong"), "chalk", 0, 0, 0, 0, 1, 4, 2);
        int[] right = {0, 0, 0, 2, 0, 0};
        Run x = new Run("chalk").row(0, 0, 1, 2, 3, 4, 100).still(2, "chalk", right).still(1, "chalk", 0, 0, 0, 2, 3, 1)
                .still(4, "chalk", 0, 0, 2, 1, 3, 0).row(1, 1);
        for (int wrong : new int[] {-1, 4, Run.LEAST, Run.MOST}) x.lost(0, "chalk", 0, 0, 0, 2, wrong, 0);
        for (int wrong : WHICH) x.lost(0, "chalk", 0, 0, 0, 2, 0, wrong);
        x.lost(0, "chalk", 0, 0, 0, 0, 0, 0).lost(0, "chalk", 0, 0, 5, 0, 0, 0).lost(0, "chalk", 1, 1, 0, 0, 0, 0)
                .lost(0, "chalk", 0, 0, 3, 1, 0, 0);
    }

    /** "the share of rows by which a throw at a CELL would have HURT (as she breathes in)". */
    private static void byChalk() {
        Run x = new Run("by chalk").board("b33;xww;wky;wwx").row(0, 1, 0, 0, 1, -1, 0, 1, -1, 1, -99, 99);
        // from cell 4: itself (k), cell 0 (x), 5 (y), 8 (x), beside
        x.share(3, 5, "byChalk", 4, 0, 1, 0, 5).share(0, 1, "byChalk", 4, 0, 1, 0, 1)
                .share(1, 1, "byChalk", 4, 0, 1, 2, 3).share(1, 2, "byChalk", 4, 0, 1, 0, 2);
        // from cell 8: itself, 4 (k), beside; from 6: cell 7, beside
        x.share(1, 5, "byChalk", 8, 0, 1, 0, 5).share(0, 1, "byChalk", 6, 0, 1, 0, 5)
                .share(0, 1, "byChalk", 6, 0, 1, 8, 1);
        // no row goes on in the next: one to the left of cell 6, one to the right of 2, one up and down
        Run rims = new Run("rims").board("b33;kkk;xxx;kkk").row(0, 1, 0, -1, 0, 1, 3, 0, -3, 0, 1, -1, -1, 1);
        rims.share(0, 1, "byChalk", 6, 0, 1, 0, 1).share(0, 1, "byChalk", 2, 0, 1, 2, 1)
                .share(0, 1, "byChalk", 3, 0, 1, 4, 2).share(0, 1, "byChalk", 6, 0, 1, 8, 1);
        rims.share(0, 1, "byChalk", 2, 0, 1, 10, 1).share(1, 1, "byChalk", 7, 0, 1, 8, 1)
                .share(1, 1, "byChalk", 1, 0, 1, 10, 1);
        Run forty = new Run("forty").board("b11;y").due(1, "sheet", 0, 0, 80).share(1, 1, "byChalk", 0, 0, 0, 0, 40);
        forty.due(1, "put", 0, 79, 1).share(39, 40, "byChalk", 0, 0, 0, 0, 40);
    }

    /** "UNKNOWN: CELL, SHEET; then as chalk()." */
    private static void byChalkRefused() {
        TextRefusals.faults(new Run("byChalk").board("b11;x"), "byChalk", 1, 0, 0, 0, 0, 1, 0);
        TextRefusals.faults(new Run("byChalk, which wrong").board("b11;x"), "byChalk", 1, 0, 0, 0, 0, 1, 2);
        Run x = new Run("byChalk").board("b12;xw").row(0, 0, 0, 0, 0, 100, -100, 0)
                .still(1, "byChalk", 0, 0, 0, 0, 1, 0).still(0, "byChalk", 1, 0, 0, 0, 1, 0);
        for (int c : new int[] {-1, 2, 36, Run.LEAST, Run.MOST}) {
            // no CELL is told ahead of the FAULTS: fault() is 0
            x.lost(0, "byChalk", c, 0, 0, 0, 1, 0).lost(0, "byChalk", c, 0, 1, 0, 1, 0)
                    .lost(0, "byChalk", c, 3, 0, 0, 1, 0);
            x.lost(0, "byChalk", c, 0, 0, 0, -1, 0).lost(0, "byChalk", c, 0, 0, 0, 9, 0)
                    .lost(0, "byChalk", c, 4, 3, 0, 9, 0);
        }
        for (int wrong : WHICH) x.lost(0, "byChalk", 0, 0, 0, 0, 1, wrong);
        x.lost(0, "byChalk", 0, 0, 0, 0, 0, 0).lost(0, "byChalk", 0, 0, 0, 6, 0, 0).lost(0, "byChalk", 0, 0, 0, 2, 1, 0)
                .lost(0, "byChalk", 0, 0, 0, 4, 1, 0);
        new Run("no board").row(0, 0, 0, 0).lost(0, "byChalk", 0, 0, 0, 0, 1, 0).lost(0, "byChalk", 0, 0, 1, 0, 1, 0);
    }
}
