/** Part 7 of the document, promises 1 and 27 to 37: each sentence that names a boundary. */
public final class SheetsTest {
    private static final String STRAIGHT = "h00100;u00100;a00100";
    private static final int[] SHEET = {-1, 4, Run.LEAST, Run.MOST};

    private SheetsTest() {
    }

    public static void main(String[] args) {
        newObject();
        lengths();
        newRow();
        sheetRefused();
        lost();
        putInCells();
        cutToSort();
        putRefused();
        cellRefused();
        copied();
        asTheyWere();
        copyRefused();
        copyIndex();
        tellings();
        whetted();
        traceWraps();
        lastCall();
        partsRefused();
        asKinds();
        faultOfTheLatest();
        faultStays();
        many();
        Check.end();
    }

    /** "No KNIVES, HAND, BOARD, MARKS; SHEETS have nothing." TRACE and fault() are 0 at first. */
    private static void newObject() {
        new Run("trace").due(0, "trace").due(0, "fault");
        Run x = new Run("new");
        for (int what = 0; what <= 5; what++) x.still(0, "many", what);
        for (int k = 0; k < 4; k++) {
            x.due(0, "lose", k).still(Run.NULL, "put", k, 0, 0);
            for (int sort = 0; sort < 3; sort++) x.lost(1, "cell", k, 0, sort);
        }
        x.still(Run.UNKNOWN, "ofKnife", 0, 0).still(Run.UNKNOWN, "ofCell", 0).still(Run.STATE, "stage", 0)
                .still(0, "back", 0);
    }

    /** "SHEETS 0 .. 3"; "a row of 0 .. 80 numbers (0 at first) of a SORT: 0 bytes, 1 shorts, 2 ints". */
    private static void lengths() {
        for (int k = 0; k < 4; k++) {
            for (int sort = 0; sort < 3; sort++) {
                for (int n : new int[] {0, 1, 79, 80}) {
                    Run x = new Run("length " + n).due(1, "sheet", k, sort, n);
                    for (int i = 0; i < n; i++) x.due(0, "cell", k, i, sort);
                    x.still(Run.INDEX, "put", k, n, 0).still(Run.INDEX, "put", k, -1, 0).lost(3, "cell", k, n, sort);
                    for (int other = 0; other < 3; other++) if (other != sort) x.lost(2, "cell", k, 0, other);
                    for (int other = 0; other < 4; other++) if (other != k) x.lost(1, "cell", other, 0, sort);
                }
            }
        }
    }

    /** "A SHEET gets a new row": the numbers of the old one are gone, be it longer or shorter. */
    private static void newRow() {
        Run x = new Run("new row").row(0, 2, 1, 2, 3).due(1, "sheet", 0, 2, 3);
        for (int i = 0; i < 3; i++) x.due(0, "cell", 0, i, 2);
        x.row(0, 2, 4, 5, 6).due(1, "sheet", 0, 2, 1).due(0, "cell", 0, 0, 2).due(Run.LOST, "cell", 0, 1, 2)
                .due(3, "fault");
        x.row(0, 2, 7, 8, 9).due(1, "sheet", 0, 2, 0).due(1, "sheet", 0, 2, 3);
        for (int i = 0; i < 3; i++) x.due(0, "cell", 0, i, 2);
        x.row(0, 2, 7, 8, 9).due(1, "lose", 0).due(1, "sheet", 0, 1, 3);
        for (int i = 0; i < 3; i++) x.due(0, "cell", 0, i, 1);
        x.due(Run.LOST, "cell", 0, 0, 2).due(2, "fault");
    }

    /** "UNKNOWN; OUTSIDE: sort, n above 80; SIZE." */
    private static void sheetRefused() {
        int[] right = {1, 0, 1};
        for (Run x : new Run[] {new Run("sheet"), new Run("sheet again").row(1, 2, 5, 6, 7)}) {
            x.stillEach(Run.UNKNOWN, "sheet", right, 0, SHEET);
            x.stillEach(Run.UNKNOWN, "sheet", new int[] {4, 3, -1}, 0, -1, 4).still(Run.UNKNOWN, "sheet", 4, 0, 81);
            x.stillEach(Run.OUTSIDE, "sheet", right, 1, -1, 3, Run.LEAST, Run.MOST);
            x.still(Run.OUTSIDE, "sheet", 1, 3, -1).still(Run.OUTSIDE, "sheet", 1, -1, Run.LEAST);
            x.stillEach(Run.OUTSIDE, "sheet", right, 2, 81, Run.MOST).still(Run.OUTSIDE, "sheet", 1, 2, 81);
            x.stillEach(Run.SIZE, "sheet", right, 2, -1, Run.LEAST).still(Run.SIZE, "sheet", 1, 2, -1);
        }
    }

    /** "A SHEET has nothing: 1; 0: it had nothing. UNKNOWN." */
    private static void lost() {
        for (int k = 0; k < 4; k++) {
            Run x = new Run("lose").still(0, "lose", k).row(k, 0).due(1, "lose", k).still(0, "lose", k).row(k, 1, 3)
                    .due(1, "lose", k);
            x.still(Run.NULL, "put", k, 0, 0).lost(1, "cell", k, 0, 0).lost(1, "cell", k, 0, 1);
            x.stillEach(Run.UNKNOWN, "lose", new int[] {0}, 0, SHEET);
        }
        Run others = new Run("others stay").row(0, 0, 1).row(1, 0, 2).row(2, 0, 3).row(3, 0, 4).due(1, "lose", 1);
        others.due(1, "cell", 0, 0, 0).due(3, "cell", 2, 0, 0).due(4, "cell", 3, 0, 0)
                .stillEach(Run.UNKNOWN, "lose", new int[] {0}, 0, SHEET);
    }

    /** "Cell i of a SHEET becomes v: 1." */
    private static void putInCells() {
        Run x = new Run("put").due(1, "sheet", 2, 2, 80).due(1, "put", 2, 0, Run.LEAST).due(1, "put", 2, 79, Run.MOST);
        x.due(Run.LEAST, "cell", 2, 0, 2).due(Run.MOST, "cell", 2, 79, 2).due(0, "cell", 2, 1, 2)
                .due(0, "cell", 2, 78, 2);
        x.due(1, "put", 2, 0, 5).due(5, "cell", 2, 0, 2);
    }

    /** "what comes to a cell of it is cut to its SORT". */
    private static void cutToSort() {
        int[][] cut = {{127, 127, 127}, {128, -128, 128}, {-128, -128, -128}, {-129, 127, -129}, {255, -1, 255}, {256, 0, 256},
            {32767, -1, 32767}, {32768, 0, -32768}, {-32768, 0, -32768}, {-32769, -1, 32767}, {65535, -1, -1}, {65536, 0, 0},
            {Run.MOST, -1, -1}, {Run.LEAST, 0, 0}};
        for (int[] a : cut) {
            Run x = new Run("cut").row(0, 0, a[0]).row(1, 1, a[0]).row(2, 2, a[0]);
            x.due(a[1], "cell", 0, 0, 0).due(a[2], "cell", 1, 0, 1).due(a[0], "cell", 2, 0, 2);
        }
    }

    /** "UNKNOWN; NULL; INDEX." */
    private static void putRefused() {
        int[] right = {0, 0, 9};
        Run none = new Run("put nowhere").row(1, 0, 1).still(Run.NULL, "put", right).still(Run.NULL, "put", 0, -1, 9)
                .still(Run.NULL, "put", 0, 99, 9);
        Run some = new Run("put").row(0, 1, 1, 2).stillEach(Run.INDEX, "put", right, 1, -1, 2, 80, Run.LEAST, Run.MOST);
        Run empty = new Run("put, empty").row(0, 1).stillEach(Run.INDEX, "put", right, 1, -1, 0, 1);
        for (Run x : new Run[] {none, some, empty}) {
            x.stillEach(Run.UNKNOWN, "put", right, 0, SHEET)
                    .stillEach(Run.UNKNOWN, "put", new int[] {0, -1, 9}, 0, SHEET);
        }
    }

    /** "LOST: UNKNOWN, OUTSIDE: sort; FAULTS CAST (nothing is no CAST), NULL, INDEX." */
    private static void cellRefused() {
        Run x = new Run("cell").row(0, 0, 7, 8).row(1, 1).still(7, "cell", 0, 0, 0).still(8, "cell", 0, 1, 0);
        for (int k : SHEET) x.lost(0, "cell", k, 0, 0).lost(0, "cell", k, -1, 3);
        for (int sort : new int[] {-1, 3, Run.LEAST, Run.MOST}) {
            x.lost(0, "cell", 0, 0, sort).lost(0, "cell", 2, 0, sort).lost(0, "cell", 0, 9, sort);
        }
        for (int i : new int[] {-1, 0, 2, Run.LEAST, Run.MOST}) {
            x.lost(2, "cell", 0, i, 1).lost(2, "cell", 0, i, 2).lost(2, "cell", 1, i, 0);
            for (int sort = 0; sort < 3; sort++) x.lost(1, "cell", 2, i, sort);
            x.lost(3, "cell", 1, i, 1);
            if (i != 0) x.lost(3, "cell", 0, i, 0);
        }
    }

    /** "n cells of a SHEET from i on go to another one (perhaps the same) from j on: n." */
    private static void copied() {
        Run x = new Run("copy").row(0, 1, 1, 2, 3, 4, 5).row(1, 1, 6, 7, 8).due(2, "copy", 0, 3, 1, 1, 2);
        for (int i = 0; i < 3; i++) x.due(new int[] {6, 4, 5}[i], "cell", 1, i, 1);
        for (int i = 0; i < 5; i++) x.due(i + 1, "cell", 0, i, 1);
        x.due(1, "copy", 1, 0, 0, 4, 1).due(6, "cell", 0, 4, 1).due(3, "copy", 0, 0, 1, 0, 3).due(3, "cell", 1, 2, 1);
        // none is taken, up to the very end of both
        x.still(0, "copy", 0, 0, 1, 0, 0).still(0, "copy", 0, 5, 1, 3, 0).still(0, "copy", 1, 3, 0, 5, 0)
                .still(5, "copy", 0, 0, 0, 0, 5);
        Run most = new Run("copy 80").due(1, "sheet", 2, 2, 80).due(1, "sheet", 3, 2, 80).due(1, "put", 2, 0, 5)
                .due(1, "put", 2, 79, 9);
        most.due(80, "copy", 2, 0, 3, 0, 80).due(5, "cell", 3, 0, 2).due(9, "cell", 3, 79, 2).due(0, "cell", 3, 40, 2);
        for (int sort = 0; sort < 3; sort++) {
            new Run("copy of a sort").row(0, sort, 3).row(1, sort, 4).due(1, "copy", 0, 0, 1, 0, 1)
                    .due(3, "cell", 1, 0, sort);
            new Run("copy of none").row(0, sort).row(1, sort).still(0, "copy", 0, 0, 1, 0, 0);
        }
    }

    /** "as they were", within one SHEET, too. */
    private static void asTheyWere() {
        Run right = new Run("to the right").row(0, 2, 1, 2, 3, 4, 5).due(4, "copy", 0, 0, 0, 1, 4);
        Run left = new Run("to the left").row(0, 2, 1, 2, 3, 4, 5).due(4, "copy", 0, 1, 0, 0, 4);
        for (int i = 0; i < 5; i++) {
            right.due(Math.max(1, i), "cell", 0, i, 2);
            left.due(Math.min(5, i + 2), "cell", 0, i, 2);
        }
    }

    /** "UNKNOWN; FAULTS NULL (the first, the other), CAST (unlike SORTS)", ahead of INDEX. */
    private static void copyRefused() {
        Run x = new Run("copy").row(0, 0, 1, 2).row(1, 1, 3, 4);
        for (int k : SHEET) {
            x.still(Run.UNKNOWN, "copy", k, 0, 0, 0, 1).still(Run.UNKNOWN, "copy", 0, 0, k, 0, 1)
                    .still(Run.UNKNOWN, "copy", k, 0, k, 0, 1);
            x.still(Run.UNKNOWN, "copy", 2, 9, k, 9, -1).still(Run.UNKNOWN, "copy", k, -1, 3, 0, 1);
        }
        int[][] wrong = {{0, 0, 0}, {0, 0, 1}, {-1, 0, 1}, {0, 9, 1}, {0, 0, -1}, {0, 0, 9}};
        for (int[] a : wrong) {
            x.still(Run.NULL, "copy", 2, a[0], 0, a[1], a[2]).still(Run.NULL, "copy", 0, a[0], 2, a[1], a[2]);
            x.still(Run.NULL, "copy", 2, a[0], 3, a[1], a[2]).still(Run.NULL, "copy", 2, a[0], 2, a[1], a[2]);
            x.still(Run.NULL, "copy", 1, a[0], 2, a[1], a[2]).still(Run.NULL, "copy", 3, a[0], 1, a[1], a[2]);
            x.still(Run.CAST, "copy", 0, a[0], 1, a[1], a[2]).still(Run.CAST, "copy", 1, a[0], 0, a[1], a[2]);
        }
        // what had a SORT and has nothing has none
        Run lost = new Run("lost ones").row(0, 0, 1).row(1, 1, 1).row(2, 2, 1).due(1, "lose", 1).due(1, "lose", 2);
        lost.still(Run.NULL, "copy", 1, 0, 2, 0, 1).still(Run.NULL, "copy", 0, 0, 1, 0, 1);
        lost.still(Run.NULL, "copy", 2, 0, 0, 0, 1).lost(1, "cell", 1, 0, 0).lost(1, "cell", 2, 0, 1);
        new Run("ints to shorts").row(0, 2, 1).row(1, 1, 1).row(2, 0, 1).still(Run.CAST, "copy", 0, 0, 1, 0, 1)
                .still(Run.CAST, "copy", 0, 0, 2, 0, 1);
    }

    /** "INDEX: i, j, n below 0 or beyond." */
    private static void copyIndex() {
        Run x = new Run("copy").row(0, 1, 1, 2, 3).row(1, 1, 4, 5);
        int[][] wrong = {{-1, 0, 1}, {0, -1, 1}, {0, 0, -1}, {-1, 0, 0}, {0, -1, 0}, {4, 0, 0}, {0, 3, 0}, {3, 0, 1}, {0, 2, 1}, {2, 0, 2},
            {0, 1, 2}, {0, 0, 3}, {0, 0, 4}, {1, 0, 3}, {-1, -1, -1}, {Run.LEAST, 0, 1}, {0, Run.LEAST, 1}, {0, 0, Run.LEAST}, {Run.MOST, 0, 1},
            {0, Run.MOST, 1}, {0, 0, Run.MOST}, {1, 1, Run.MOST}, {Run.MOST, Run.MOST, Run.MOST}, {Run.MOST, 0, 0}, {0, Run.MOST, 0},
            {3, 2, -1}, {-1, 1, 2}};
        for (int[] a : wrong) x.still(Run.INDEX, "copy", 0, a[0], 1, a[1], a[2]);
        x.still(Run.INDEX, "copy", 1, 0, 0, 0, 3).still(Run.INDEX, "copy", 0, 1, 0, 0, 3)
                .still(Run.INDEX, "copy", 0, 0, 0, 1, 3);
        x.due(2, "copy", 0, 1, 1, 0, 2).due(2, "cell", 1, 0, 1).due(3, "cell", 1, 1, 1).due(2, "copy", 1, 0, 0, 0, 2)
                .due(2, "cell", 0, 0, 1);
    }

    /** "KNIFE (1): PACE. HATCHET (2): what KNIFE's gives, and 100. DOUBLE (3): what HATCHET's gives, and what KNIFE's gives". */
    private static void tellings() {
        int[][] told = {{0, 0, 1}, {1, 100, 2 * 31 + 1}, {2, 100, ((3 * 31 + 2) * 31 + 1) * 31 + 1}};
        for (int[] a : told) {
            for (int pace = 1; pace <= 9; pace += 8) {
                int want = a[1] + (a[0] == 2 ? 2 * pace : pace);
                new Run("telling").knife(a[0], pace, 1, 0).due(want, "tell", 0).due(a[2], "trace").due(want, "tell", 0);
            }
        }
    }

    /** "WHETTED by a lent body (4): its number; DOUBLE ones have their own (5): 20." */
    private static void whetted() {
        Run x = new Run("whetted");
        int trace = 0;
        for (int k = 0; k < 6; k++) x.knife(k % 3, 7, 1, 0);
        for (int k = 0; k < 6; k++) {
            trace = 31 * trace + (k % 3 == 2 ? 5 : 4);
            x.due(k % 3 == 2 ? 20 : k, "whet", k).due(trace, "trace");
        }
    }

    /** "TRACE (an int that wraps, 0 at first, becomes 31 times it and the number)". */
    private static void traceWraps() {
        Run x = new Run("wraps").knife(0, 1, 1, 0).knife(2, 1, 1, 0).due(0, "trace");
        int trace = 0;
        boolean below = false;
        for (int round = 0; round < 20; round++) {
            trace = 31 * (31 * trace + 4) + 1;
            below |= trace < 0;
            x.due(0, "whet", 0).due(1, "tell", 0).due(trace, "trace").due(trace, "trace");
        }
        Check.due("it has wrapped", below);
    }

    /** "An object is used for at most 512 calls": the last of them answers as the first. */
    private static void lastCall() {
        Run x = new Run("512 calls").knife(1, 9, 1, 0);
        int trace = 0;
        for (int call = 2; call < Run.MOST_CALLS; call++) {
            trace = 31 * (31 * trace + 2) + 1;
            x.due(109, "tell", 0);
        }
        x.due(trace, "trace");
    }

    /** "UNKNOWN", of tell, whet, as: nothing is left in TRACE. */
    private static void partsRefused() {
        for (String call : new String[] {"tell", "whet"}) {
            new Run(call + " without knives").still(Run.UNKNOWN, call, 0);
            Run x = new Run(call).knife(0, 1, 1, 0).knife(2, 1, 1, 0).due(1, "tell", 0);
            x.stillEach(Run.UNKNOWN, call, new int[] {0}, 0, -1, 2, 6, Run.LEAST, Run.MOST);
        }
    }

    /** "taken as one of a kind: 1. UNKNOWN; OUTSIDE; CAST: it is none (each is a KNIFE, too; a DOUBLE one is a HATCHET)". */
    private static void asKinds() {
        Run x = new Run("as").knife(0, 1, 1, 0).knife(1, 1, 1, 0).knife(2, 1, 1, 0);
        for (int k = 0; k < 3; k++) {
            for (int kind = 0; kind < 3; kind++) x.still(kind <= k ? 1 : Run.CAST, "as", k, kind);
            x.stillEach(Run.OUTSIDE, "as", new int[] {k, 0}, 1, -1, 3, Run.LEAST, Run.MOST);
        }
        x.stillEach(Run.UNKNOWN, "as", new int[] {0, 0}, 0, -1, 3, Run.LEAST, Run.MOST).still(Run.UNKNOWN, "as", 3, 3)
                .still(Run.UNKNOWN, "as", -1, -1);
        new Run("as without knives").still(Run.UNKNOWN, "as", 0, 0).still(Run.UNKNOWN, "as", 0, 3);
    }

    /** "The FAULT of the latest call that names one: 0: it came to none, or was refused (0 ahead of any)." */
    private static void faultOfTheLatest() {
        Run x = new Run("latest").due(0, "fault").due(Run.NULL, "put", 0, 0, 0).due(1, "fault")
                .due(Run.SIZE, "sheet", 0, 0, -1).due(4, "fault");
        x.due(1, "sheet", 0, 0, 2).due(0, "fault").due(Run.INDEX, "put", 0, 2, 0).due(3, "fault").due(3, "fault")
                .due(Run.LOST, "cell", 0, 0, 1);
        x.due(2, "fault").due(Run.UNKNOWN, "put", 4, 0, 0).due(0, "fault").due(Run.INDEX, "put", 0, 2, 0)
                .due(Run.OUTSIDE, "sheet", 0, 3, 0).due(0, "fault");
        // a text's FIRST FAULT is none of the FAULTS
        x.due(Run.INDEX, "put", 0, 2, 0).due(-100, "hand", 0, 0, 0, 2).due(0, "fault");
        x.due(Run.INDEX, "put", 0, 2, 0).due(-100, "board", 0, 0, 0, 2).due(0, "fault");
        // each call that names one, answering well: the fault is 0 again
        x.hand(STRAIGHT).board("b11;w").knife(0, 1, 1, 0);
        int[][] well = {{0, 0, 1}, {0, 0, 0, 0, 0}, {0, 0, 0}, {0, 0}, {0, 0, 0, 0, 1, -1}, {0, 0, 0, 1, 0, 0}, {0, 0, 0, 0, 1, 0}};
        String[] calls = {"put", "copy", "cell", "as", "order", "chalk", "byChalk"};
        long[] wants = {1, 0, 1, 1, 0, 0, 0};
        for (int at = 0; at < calls.length; at++) {
            x.due(Run.INDEX, "put", 0, 2, 0).due(3, "fault").due(wants[at], calls[at], well[at]).due(0, "fault");
            if (at == 2) x.due(1, "put", 0, 0, 0);
        }
        x.due(Run.INDEX, "put", 0, 2, 0).hand(STRAIGHT).due(0, "fault");
    }

    /** Calls that name no FAULTS leave it, whether they answer or refuse. */
    private static void faultStays() {
        Run x = new Run("stays").hand(STRAIGHT).board("b11;w").knife(0, 1, 24, 0).row(0, 0, 1)
                .due(Run.SIZE, "sheet", 0, 0, -1);
        x.due(1, "knife", 0, 1, 1, 0).due(Run.OUTSIDE, "knife", 3, 1, 1, 0).due(0, "ofKnife", 0, 0)
                .due(0, "lies", 0, 0, 1, 0).due(0, "comes", 0, 0, 1);
        x.due(Run.MOST, "sticks", 0, 0).due(1, "weight", 0, 0, 0).due(0, "stage", 0).due(1, "likely", 0, 0, 1, 0, 0)
                .due(1, "best", 0, 0, 0);
        x.due(0, "ofCell", 0).due(0, "hurts", 0, 0, 1, 0).due(1, "holds", 0, 0, 1, 0, 0, 0).due(1, "allowed", 0, 0)
                .due(0, "nearest", 0, 0);
        x.due(0, "turned", 0, 1, 0).due(0, "when", 0, 1, 0, 1, 1, 0, 0, 0).due(0, "mark", 1, 0).due(0, "back", 1)
                .due(576, "guessed", 0, 0);
        x.due(1, "tells", 0, 0).due(1, "lose", 0).due(0, "lose", 0).due(Run.UNKNOWN, "lose", 4).due(1, "tell", 0)
                .due(0, "whet", 0).due(0, "many", 4);
        x.due(35, "trace").due(4, "fault").due(4, "fault");
    }

    /** "0 KNIVES, 1 CELLS, 2 HIGH, 3 WIDE, 4 MARKS, 5 TIRES (0: not told). OUTSIDE." */
    private static void many() {
        Run x = new Run("many").hand(STRAIGHT + ";t7").board("b52;ww;ww;ww;ww;ww").knife(0, 1, 1, 0)
                .due(0, "mark", 1, 0).due(1, "mark", 1, 0);
        int[] counts = {1, 10, 5, 2, 2, 7};
        for (int what = 0; what <= 5; what++) x.still(counts[what], "many", what);
        x.stillEach(Run.OUTSIDE, "many", new int[] {0}, 0, -1, 6, Run.LEAST, Run.MOST).hand(STRAIGHT)
                .still(0, "many", 5);
        new Run("many of nothing").stillEach(Run.OUTSIDE, "many", new int[] {0}, 0, -1, 6);
    }
}
