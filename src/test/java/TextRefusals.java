import java.util.List;

/** What all calls share that take n cells of a SHEET from i on: refusals, then CAST, NULL, SIZE, INDEX. */
final class TextRefusals {
    private static final List<String> LONGS = List.of("chalk", "byChalk");
    private final Run x;
    private final String call;
    private final int[] right;
    private final int at;

    private TextRefusals(Run x, String call, int at, int... right) {
        this.x = x;
        this.call = call;
        this.at = at;
        this.right = right;
    }

    /** Behind a run, of a call with these arguments; those of the cells (sheet, sort, i, n) stand from a place on. */
    static void faults(Run made, String call, int at, int... right) {
        // 5 bytes, 5 shorts, 0 ints, nothing
        Run x = made.row(0, 0, 1, 2, 3, 4, 5).row(1, 1, 1, 2, 3, 4, 5).row(2, 2);
        TextRefusals refusals = new TextRefusals(x, call, at, right);
        refusals.refused();
        refusals.castOrNull();
        refusals.size();
        refusals.index(call.endsWith("halk") ? 2 : 1);
    }

    private void still(int want, int k, int sort, int i, int n) {
        int[] a = right.clone();
        a[at] = k;
        a[at + 1] = sort;
        a[at + 2] = i;
        a[at + 3] = n;
        if (LONGS.contains(call)) x.lost(want <= Run.NULL ? -10 - want : 0, call, a);
        else x.still(want, call, a);
    }

    /** UNKNOWN ahead of all others, OUTSIDE (sort) ahead of all FAULTS. */
    private void refused() {
        for (int k : new int[] {-1, 4, Run.LEAST, Run.MOST}) {
            still(Run.UNKNOWN, k, 0, 0, 1);
            still(Run.UNKNOWN, k, 3, 9, -1);
        }
        for (int sort : new int[] {-1, 3, Run.LEAST, Run.MOST}) {
            for (int k = 0; k < 4; k++) {
                still(Run.OUTSIDE, k, sort, 0, 1);
                still(Run.OUTSIDE, k, sort, 9, -1);
            }
        }
    }

    /** CAST and NULL ahead of SIZE and INDEX, with or without cells; nothing is no CAST. */
    private void castOrNull() {
        for (int sort = 0; sort < 3; sort++) {
            for (int k = 0; k < 4; k++) {
                if (k == sort) continue;
                int want = k == 3 ? Run.NULL : Run.CAST;
                still(want, k, sort, 0, 0);
                still(want, k, sort, 0, 1);
                still(want, k, sort, 0, -1);
                still(want, k, sort, 9, 1);
                still(want, k, sort, -1, -1);
            }
        }
    }

    /** SIZE ahead of INDEX. */
    private void size() {
        int[][] wrong = {{0, -1}, {0, Run.LEAST}, {-1, -1}, {6, -1}, {Run.MOST, Run.LEAST}, {1, Run.LEAST / 2}};
        for (int[] a : wrong) still(Run.SIZE, 0, 0, a[0], a[1]);
        still(Run.SIZE, 2, 2, 1, -1);
        still(Run.SIZE, 2, 2, 0, -1);
    }

    /** INDEX: not all cells are there; if none of them is taken, too. */
    private void index(int cellsOfOne) {
        int[][] none = {{-1, 0}, {6, 0}, {Run.LEAST, 0}, {Run.MOST, 0}};
        int[][] some = {{0, 6}, {1, 5}, {5, 1}, {-1, 1}, {-1, 6}, {-2, 2}, {1, Run.MOST}, {Run.MOST, Run.MOST}, {Run.LEAST, 1},
            {Run.MOST, 1}, {0, 1 << 30}, {5, 1 << 30}, {0, Run.MOST}};
        int[][] ofTwo = {{0, 3}, {1, 3}, {2, 2}, {4, 1}, {-1, 3}};
        for (int[] a : none) still(Run.INDEX, 0, 0, a[0], a[1]);
        for (int[] a : some) still(Run.INDEX, 0, 0, a[0], a[1]);
        if (cellsOfOne == 2) for (int[] a : ofTwo) still(Run.INDEX, 1, 1, a[0], a[1]);
        still(Run.INDEX, 2, 2, 1, 0);
        still(Run.INDEX, 2, 2, 0, 1);
    }

    /** Of hand() or board(): behind these the text is read, which here ends too soon or is none. */
    static void of(String call, Run made) {
        faults(made, call, 0, 0, 0, 0, 0);
        made.still(-100, call, 0, 0, 0, 0).still(-100, call, 0, 0, 5, 0).still(-100, call, 2, 2, 0, 0);
        made.still(-100, call, 0, 0, 0, 5).still(-100, call, 1, 1, 4, 1);
    }

    /** A whole text of each sort, from i on, with other codes about it; one code more is the FIRST FAULT. */
    static void read(String call, String text, int want) {
        int n = text.length();
        for (int sort = 0; sort < 3; sort++) {
            for (int before = 0; before <= 2; before++) {
                Run x = new Run(call + " of sort " + sort).text(sort, sort, "??".substring(0, before) + text + "??");
                x.still(-100 - n, call, sort, sort, before, n + 1).still(-100 - n, call, sort, sort, before, n + 2);
                if (before > 0) x.still(-100, call, sort, sort, before - 1, n);
                x.due(want, call, sort, sort, before, n);
            }
        }
        // a code is the whole number; bytes are cut as they come
        new Run(call + " of ints").text(0, 2, text).due(1, "put", 0, 0, text.charAt(0) + 65536)
                .still(-100, call, 0, 2, 0, n);
        new Run(call + " of shorts").text(0, 1, text).due(1, "put", 0, 0, text.charAt(0) + 256)
                .still(-100, call, 0, 1, 0, n);
        new Run(call + " of bytes").text(0, 0, text).due(1, "put", 0, 0, text.charAt(0) + 256)
                .due(want, call, 0, 0, 0, n);
        new Run(call + " of 80 cells").due(1, "sheet", 0, 0, 80).due(-100, call, 0, 0, 0, 80)
                .due(-100, call, 0, 0, 80, 0);
    }

    /** A text with the code at a place become another: the FIRST FAULT is there, and what was stays. */
    static void spoilt(Run before, String call, String text, int place, int code) {
        String other = text.substring(0, place) + (char) code + text.substring(place + 1);
        before.text(0, 2, other).still(-100 - place, call, 0, 2, 0, text.length())
                .still(-100 - place, call, 0, 2, 0, place + 1);
    }
}
