/** Part 2 of the document, promises 7 to 11: each sentence that names a boundary. */
public final class HandTest {
    private static final String OLD = "h12345;u23456;a34567;t8", WHOLE = "h00001;u10000;a00900;t9";
    private static final String STRAIGHT = "h00100;u00100;a00100";
    private static final int[] STAGE = {-1, 10, Run.LEAST, Run.MOST};

    private HandTest() {
    }

    public static void main(String[] args) {
        TextRefusals.of("hand", new Run("hand"));
        TextRefusals.of("hand", new Run("another hand").hand(OLD));
        TextRefusals.read("hand", WHOLE, 1);
        TextRefusals.read("hand", "h00100;u00100;a00100", 1);
        endsTooSoon();
        spoilt();
        notAllFive0();
        tires();
        anotherHand();
        weights();
        weightRefused();
        stages();
        roundBy24();
        sharesOfLikely();
        likelyRefused();
        best();
        bestRefused();
        Check.end();
    }

    /** "how many codes there are, if it just ends too soon"; "then perhaps ; t and a digit". */
    private static void endsTooSoon() {
        for (int n = 0; n < WHOLE.length(); n++) {
            if (n == 20) continue;
            new Run("ends at " + n).text(0, 0, WHOLE).still(-100 - n, "hand", 0, 0, 0, n);
            new Run("old one stays, at " + n).hand(OLD).text(0, 0, WHOLE).still(-100 - n, "hand", 0, 0, 0, n);
        }
        new Run("may end at 20").text(0, 0, WHOLE).due(1, "hand", 0, 0, 0, 20).due(0, "many", 5).due(0, "stage", 9999);
        new Run("may end at 23").text(0, 0, WHOLE).due(1, "hand", 0, 0, 0, 23).due(9, "many", 5).due(9, "stage", 9999);
    }

    /** "the place (from 0 on) of the first code with which no TEXT goes on". */
    private static void spoilt() {
        int[] letters = {'h', 'u', 'a', 't', ';', 0, -1, 255, 'H'};
        for (int place = 0; place < WHOLE.length(); place++) {
            int right = WHOLE.charAt(place);
            boolean digit = right >= '0' && right <= '9';
            int[] wrong = digit ? new int[] {'0' - 1, '9' + 1, ';', 'h', ' '} : new int[] {right - 1, right + 1, '0', '9'};
            for (int code : wrong) TextRefusals.spoilt(new Run("spoilt").hand(OLD), "hand", WHOLE, place, code);
            for (int code : letters) {
                if (code != right) TextRefusals.spoilt(new Run("no hand before"), "hand", WHOLE, place, code);
            }
        }
        // the first of several
        new Run("two faults").text(0, 0, "h0000x;v").still(-105, "hand", 0, 0, 0, 8);
        new Run("a fault ahead of the end").text(0, 0, "h00x").still(-103, "hand", 0, 0, 0, 4);
    }

    /** "not all five 0"; "the last digit of five that would all be 0, too". */
    private static void notAllFive0() {
        String[] zeros = {"h00000;u00100;a00100", "h00100;u00000;a00100", "h00100;u00100;a00000"};
        for (int row = 0; row < 3; row++) {
            int last = 7 * row + 5;
            Run x = new Run("all 0 in row " + row).hand(OLD).text(0, 0, zeros[row])
                    .still(-100 - last, "hand", 0, 0, 0, 20);
            x.still(-100 - last, "hand", 0, 0, 0, last + 1).still(-100 - last, "hand", 0, 0, 0, last);
            for (int at = 1; at <= 5; at++) {
                int place = 7 * row + at;
                String one = zeros[row].substring(0, place) + '1' + zeros[row].substring(place + 1);
                new Run("one of five").text(0, 0, one).due(1, "hand", 0, 0, 0, 20).due(1, "weight", row, at - 3, 0);
            }
        }
        new Run("all nines").hand("h99999;u99999;a99999").due(9, "weight", 0, -2, 0).due(9, "weight", 2, 2, 9);
    }

    /** "t and a digit 1 .. 9 (TIRES)". */
    private static void tires() {
        for (int tires = 1; tires <= 9; tires++) new Run("tires").hand(STRAIGHT + ";t" + tires).due(tires, "many", 5);
        for (int code : new int[] {'0', '0' - 1, '9' + 1, 't'}) {
            TextRefusals.spoilt(new Run("tires not").hand(OLD), "hand", STRAIGHT + ";t1", 22, code);
        }
        for (char code : "0123456789;htua".toCharArray()) {
            new Run("behind tires").hand(OLD).text(0, 0, STRAIGHT + ";t1" + code).still(-123, "hand", 0, 0, 0, 24);
        }
        new Run("two texts").text(0, 0, STRAIGHT + ";t1" + STRAIGHT).still(-123, "hand", 0, 0, 0, 43);
        new Run("t twice").text(0, 0, STRAIGHT + ";t1;t1").still(-123, "hand", 0, 0, 0, 26);
    }

    /** A HAND takes the place of the one before, TIRES and all. */
    private static void anotherHand() {
        Run x = new Run("two hands").hand(OLD).due(8, "many", 5).due(1, "weight", 0, -2, 0)
                .hand("h90000;u09000;a00090");
        x.due(0, "many", 5).due(9, "weight", 0, -2, 0).due(0, "weight", 0, 2, 0).due(9, "weight", 1, -1, 0);
        x.due(0, "stage", 9999).hand(OLD).due(8, "many", 5).due(7, "weight", 2, 2, 0);
    }

    /** "in it each weight but the middle one is so much more (9 at most)". */
    private static void weights() {
        Run x = new Run("weights").hand("h01089;u90909;a00100");
        int[][] told = {{0, 1, 0, 8, 9}, {9, 0, 9, 0, 9}, {0, 0, 1, 0, 0}};
        for (int row = 0; row < 3; row++) {
            for (int d = -2; d <= 2; d++) {
                int weight = told[row][d + 2];
                x.due(weight, "weight", row, d, 0).due(d == 0 ? weight : Math.min(9, weight + 1), "weight", row, d, 1);
                x.due(d == 0 ? weight : Math.min(9, weight + 8), "weight", row, d, 8);
                x.due(d == 0 ? weight : 9, "weight", row, d, 9);
            }
        }
    }

    /** "UNKNOWN: row; OUTSIDE: d, STAGE; STATE: there is no HAND." */
    private static void weightRefused() {
        int[] right = {0, 0, 0};
        Run[] runs = {new Run("weight without a hand"), new Run("weight").hand(OLD)};
        for (Run x : runs) {
            x.stillEach(Run.UNKNOWN, "weight", right, 0, -1, 3, Run.LEAST, Run.MOST)
                    .still(Run.UNKNOWN, "weight", 3, 3, 10);
            x.stillEach(Run.OUTSIDE, "weight", right, 1, -3, 3, Run.LEAST, Run.MOST);
            x.stillEach(Run.OUTSIDE, "weight", right, 2, STAGE).still(Run.OUTSIDE, "weight", 2, -3, 10);
        }
        runs[0].still(Run.STATE, "weight", 0, -2, 0).still(Run.STATE, "weight", 2, 2, 9);
        runs[1].still(1, "weight", 0, -2, 0).still(9, "weight", 2, 2, 9);
    }

    /** "the n-th throw is of STAGE n by TIRES (cut)"; "(9 at most)"; "without TIRES 0"; "(0 .. 9999). OUTSIDE; STATE". */
    private static void stages() {
        for (int tires = 1; tires <= 9; tires++) {
            Run x = new Run("tires " + tires).hand(STRAIGHT + ";t" + tires);
            for (int stage = 1; stage <= 9; stage++) {
                x.due(stage - 1, "stage", stage * tires - 1).due(stage, "stage", stage * tires);
            }
            x.due(0, "stage", 0).due(9, "stage", 10 * tires).due(9, "stage", 9999);
            x.stillEach(Run.OUTSIDE, "stage", new int[] {0}, 0, -1, 10000, Run.LEAST, Run.MOST);
        }
        Run without = new Run("without tires").hand(STRAIGHT).still(0, "stage", 0).still(0, "stage", 9999);
        without.stillEach(Run.OUTSIDE, "stage", new int[] {0}, 0, -1, 10000);
        Run none = new Run("stage without a hand").still(Run.STATE, "stage", 0).still(Run.STATE, "stage", 9999);
        none.stillEach(Run.OUTSIDE, "stage", new int[] {0}, 0, -1, 10000, Run.LEAST, Run.MOST);
    }

    /** "START by -2, -1, 0, 1, 2 (round by 24)": a knife that sticks just where START is 0. */
    private static void roundBy24() {
        Run x = new Run("round by 24").knife(0, 1, 24, 0).hand("h12345;u00100;a00100");
        x.share(1, 15, "likely", 0, 2, 1, 0).share(2, 15, "likely", 0, 1, 1, 0).share(1, 5, "likely", 0, 0, 1, 0);
        x.share(4, 15, "likely", 0, 23, 1, 0).share(1, 3, "likely", 0, 22, 1, 0).share(0, 1, "likely", 0, 21, 1, 0);
        x.share(0, 1, "likely", 0, 3, 1, 0);
        // where START is 23, from one foot
        x.knife(0, 1, 1, 0).share(1, 15, "likely", 1, 1, 1, 0).share(2, 15, "likely", 1, 0, 1, 0);
        x.share(1, 5, "likely", 1, 23, 1, 0).share(4, 15, "likely", 1, 22, 1, 0).share(1, 3, "likely", 1, 21, 1, 0);
    }

    /** "Shares are told as upper and lower number (above 0) in least terms." */
    private static void sharesOfLikely() {
        Run x = new Run("shares").knife(0, 1, 24, 2).hand("h24642;u00100;a00100");
        x.share(1, 1, "likely", 0, 0, 1, 0).share(1, 1, "likely", 0, 0, 40, 9).share(0, 1, "likely", 0, 12, 40, 9);
        // at START 1 straying by 2 is too far: 16 of 18, in STAGE 9 33 of 42
        x.share(8, 9, "likely", 0, 1, 1, 0).share(11, 14, "likely", 0, 1, 1, 9).share(8, 9, "likely", 0, 23, 1, 0);
        x.knife(1, 1, 24, 0).knife(2, 1, 24, 0);
        // BUTT first: a HATCHET doesn't stick, a DOUBLE by -1, 0, 1
        x.share(0, 1, "likely", 1, 12, 1, 0).share(7, 9, "likely", 2, 12, 1, 0).share(7, 9, "likely", 1, 0, 1, 0);
    }

    /** "LOST: UNKNOWN; OUTSIDE; STATE: there is no HAND." */
    private static void likelyRefused() {
        int[] right = {0, 0, 1, 0, 0};
        new Run("likely without a knife").hand(OLD).still(Run.LOST, "likely", right);
        new Run("likely without a hand").knife(0, 1, 24, 0).still(Run.LOST, "likely", right);
        Run x = new Run("likely").knife(0, 1, 24, 0).hand(OLD).still(1, "likely", right)
                .still(5, "likely", 0, 0, 1, 0, 1);
        x.still(4, "likely", 0, 23, 40, 0, 0).still(1, "likely", 0, 0, 1, 9, 0).still(13, "likely", 0, 0, 1, 9, 1);
        x.stillEach(Run.LOST, "likely", right, 0, -1, 1, Run.LEAST, Run.MOST);
        x.stillEach(Run.LOST, "likely", right, 1, -1, 24, Run.LEAST, Run.MOST);
        x.stillEach(Run.LOST, "likely", right, 2, 0, 41, Run.LEAST, Run.MOST)
                .stillEach(Run.LOST, "likely", right, 3, STAGE);
        x.stillEach(Run.LOST, "likely", right, 4, -1, 2, Run.LEAST, Run.MOST);
    }

    /** "of 1 .. 40, 0 .. 23"; "of several the least FEET, then the least START". */
    private static void best() {
        Run x = new Run("best").hand(STRAIGHT).knife(0, 1, 24, 0).due(1, "best", 0, 0, 0).due(0, "best", 0, 0, 1);
        // sticks by START 23 from 9 feet, 22 from 18 ..
        x.knife(0, 9, 1, 0).due(9, "best", 1, 0, 0).due(23, "best", 1, 0, 1);
        // from one foot by START 23, from 24 feet by 0
        x.knife(0, 1, 1, 0).due(1, "best", 2, 0, 0).due(23, "best", 2, 0, 1);
        // from one foot by 0 and 23 alike: a ninth, and eight
        x.knife(0, 9, 1, 1).due(1, "best", 3, 0, 0).due(0, "best", 3, 0, 1);
        // a DOUBLE from one foot by 10, 11, 12, 22, 23, 0
        x.knife(2, 9, 10, 0).due(1, "best", 4, 0, 0).due(10, "best", 4, 0, 1);
        Run y = new Run("best, straying").hand("h00001;u00100;a00100").knife(0, 1, 24, 0).due(22, "best", 0, 0, 1);
        y.hand("h10000;u00100;a00100").due(2, "best", 0, 0, 1).due(1, "best", 0, 0, 0);
        // tired it strays to either side by the same
        y.due(1, "best", 0, 9, 1).hand("h11111;u00100;a00100").due(0, "best", 0, 0, 1);
        // of WIDTH 2 all five stick just where it lies straight: from 9 feet by 23
        Run z = new Run("best of width 2").hand("h11111;u00100;a00100").knife(0, 9, 1, 2);
        z.due(9, "best", 0, 0, 0).due(23, "best", 0, 0, 1).due(9, "best", 0, 9, 0).due(23, "best", 0, 9, 1);
    }

    /** "UNKNOWN; OUTSIDE; STATE: there is no HAND." */
    private static void bestRefused() {
        int[] right = {0, 0, 0};
        new Run("best without both").still(Run.UNKNOWN, "best", right).still(Run.UNKNOWN, "best", 0, 10, 2);
        Run none = new Run("best without a hand").knife(0, 1, 24, 0).still(Run.STATE, "best", right);
        none.still(Run.STATE, "best", 0, 9, 1).still(Run.UNKNOWN, "best", 1, 0, 0);
        Run some = new Run("best").knife(0, 1, 24, 0).hand(OLD).still(1, "best", right).still(1, "best", 0, 9, 1);
        for (Run x : new Run[] {none, some}) {
            x.stillEach(Run.UNKNOWN, "best", right, 0, -1, 1, Run.LEAST, Run.MOST)
                    .still(Run.UNKNOWN, "best", -1, -1, -1);
            x.stillEach(Run.OUTSIDE, "best", right, 1, STAGE);
            x.stillEach(Run.OUTSIDE, "best", right, 2, -1, 2, Run.LEAST, Run.MOST);
        }
    }
}
