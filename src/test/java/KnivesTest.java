/** Part 1 of the document, promises 2 to 6: each sentence that names a boundary. */
public final class KnivesTest {
    private static final int[] START = {-1, 24, Run.LEAST, Run.MOST}, FEET = {0, 41, -1, Run.LEAST, Run.MOST};
    private static final int[] WHICH = {-1, 2, Run.LEAST, Run.MOST};

    private KnivesTest() {
    }

    public static void main(String[] args) {
        numbersOfKnives();
        sixEver();
        ofKnife();
        widths();
        wholeTurns();
        liesRefused();
        pointEdges();
        buttEdges();
        flatEdges();
        pointAheadOfButt();
        comesRefused();
        whatSticks();
        feetOfSticks();
        sticksRefused();
        Check.end();
    }

    /** "PACE (1 .. 9), TURN (1 .. 24), BAND (0 .. 5), of a kind: 0, 1, 2"; "OUTSIDE". */
    private static void numbersOfKnives() {
        int[][] ends = {{0, 2}, {1, 9}, {1, 24}, {0, 5}};
        int[] right = {1, 5, 5, 2};
        for (int place = 0; place < 4; place++) {
            for (int end : ends[place]) {
                int[] a = right.clone();
                a[place] = end;
                Run x = new Run("an edge of knife").due(0, "knife", a);
                for (int what = 0; what < 4; what++) x.due(a[what], "ofKnife", 0, what);
            }
            int[] wrong = {ends[place][0] - 1, ends[place][1] + 1, Run.LEAST, Run.MOST};
            new Run("no such knife").stillEach(Run.OUTSIDE, "knife", right, place, wrong);
            new Run("no such knife behind one").knife(0, 1, 1, 1).stillEach(Run.OUTSIDE, "knife", right, place, wrong);
        }
    }

    /** "6 ever, numbered as they come"; "OUTSIDE; FULL". */
    private static void sixEver() {
        Run x = new Run("six knives");
        for (int k = 0; k < 6; k++) {
            x.due(Run.OUTSIDE, "knife", 0, 1, 25, 0).due(k, "knife", k % 3, k + 1, k + 2, k).due(k + 1, "many", 0);
        }
        x.still(Run.FULL, "knife", 0, 1, 1, 0).still(Run.FULL, "knife", 2, 9, 24, 5);
        int[] right = {0, 1, 1, 0};
        for (int place = 0; place < 4; place++) x.stillEach(Run.OUTSIDE, "knife", right, place, -1, 25);
        for (int k = 0; k < 6; k++) x.due(k + 2, "ofKnife", k, 2);
        x.due(6, "many", 0);
    }

    /** "Of a KNIFE: 0 kind .. 4 WIDTH. UNKNOWN; OUTSIDE." */
    private static void ofKnife() {
        new Run("none yet").still(Run.UNKNOWN, "ofKnife", 0, 0).still(Run.UNKNOWN, "ofKnife", 0, 5);
        Run x = new Run("of two").knife(0, 3, 4, 5).knife(1, 6, 7, 1);
        x.stillEach(Run.UNKNOWN, "ofKnife", new int[] {0, 0}, 0, -1, 2, 6, Run.LEAST, Run.MOST);
        x.stillEach(Run.UNKNOWN, "ofKnife", new int[] {0, 9}, 0, -1, 2);
        x.stillEach(Run.OUTSIDE, "ofKnife", new int[] {1, 0}, 1, -1, 5, Run.LEAST, Run.MOST);
        x.still(0, "ofKnife", 0, 0).still(1, "ofKnife", 1, 0).still(2, "ofKnife", 1, 4);
        Run six = new Run("of six");
        for (int k = 0; k < 6; k++) six.knife(0, 1, 1, 0);
        six.still(1, "ofKnife", 5, 1).still(Run.UNKNOWN, "ofKnife", 6, 1);
    }

    /** "Its WIDTH is BAND; a HATCHET's 1 more"; a DOUBLE is a HATCHET. */
    private static void widths() {
        for (int band = 0; band <= 5; band++) {
            Run x = new Run("widths").knife(0, 1, 1, band).knife(1, 1, 1, band).knife(2, 1, 1, band);
            x.due(band, "ofKnife", 0, 4).due(band + 1, "ofKnife", 1, 4).due(band + 1, "ofKnife", 2, 4);
            for (int k = 0; k < 3; k++) x.due(band, "ofKnife", k, 3);
        }
    }

    /** "START, and TURN times f by PACE (a fraction), less whole turns of 24"; "below 24"; "in least terms". */
    private static void wholeTurns() {
        Run x = new Run("by ninths").knife(0, 9, 1, 0);
        x.share(215, 9, "lies", 0, 23, 8).share(0, 1, "lies", 0, 23, 9).share(1, 9, "lies", 0, 23, 10);
        x.share(1, 9, "lies", 0, 0, 1).share(1, 3, "lies", 0, 0, 3).share(1, 1, "lies", 0, 0, 9);
        x.share(40, 9, "lies", 0, 0, 40).share(31, 9, "lies", 0, 23, 40).share(23, 1, "lies", 0, 22, 9);
        x.knife(0, 1, 24, 0).knife(0, 1, 23, 0).knife(0, 9, 24, 0).knife(0, 4, 6, 0);
        x.share(0, 1, "lies", 1, 0, 1).share(0, 1, "lies", 1, 0, 40).share(23, 1, "lies", 1, 23, 40);
        x.share(23, 1, "lies", 2, 0, 1).share(0, 1, "lies", 2, 1, 1).share(22, 1, "lies", 2, 23, 1);
        x.share(8, 1, "lies", 2, 0, 40).share(7, 1, "lies", 2, 23, 40);
        x.share(8, 3, "lies", 3, 0, 1).share(32, 3, "lies", 3, 0, 40).share(29, 3, "lies", 3, 23, 40);
        x.share(3, 2, "lies", 4, 0, 1).share(1, 2, "lies", 4, 23, 1).share(0, 1, "lies", 4, 0, 16);
    }

    /** "LOST: UNKNOWN; OUTSIDE." */
    private static void liesRefused() {
        int[] right = {0, 0, 1, 0};
        new Run("lies without knives").still(Run.LOST, "lies", right);
        Run x = new Run("lies").knife(0, 9, 1, 0).still(1, "lies", right).still(31, "lies", 0, 23, 40, 0);
        x.stillEach(Run.LOST, "lies", right, 0, -1, 1, Run.LEAST, Run.MOST);
        x.stillEach(Run.LOST, "lies", right, 1, START).stillEach(Run.LOST, "lies", right, 2, FEET);
        x.stillEach(Run.LOST, "lies", right, 3, WHICH);
    }

    /** A knife of PACE 9, TURN 1: from 9 feet it lies 1 farther, from 1 and 8 by a ninth and by eight. */
    private static Run ofWidth(String name, int width) {
        return new Run(name).knife(width == 6 ? 1 : 0, 9, 1, width == 6 ? 5 : width);
    }

    /** "POINT first (0), if that is no farther than WIDTH from 0, either way round". */
    private static void pointEdges() {
        int[] behind = {3, 3, 3, 3, 2, 2, 1};
        for (int width = 0; width <= 6; width++) {
            Run x = ofWidth("point of width " + width, width);
            x.due(0, "comes", 0, (width + 23) % 24, 9).due(0, "comes", 0, 23 - width, 9).due(0, "comes", 0, 23, 9);
            x.due(behind[width], "comes", 0, width, 1).due(behind[width], "comes", 0, 23 - width, 8);
        }
    }

    /** "else BUTT first (1), if no farther than WIDTH from 12". */
    private static void buttEdges() {
        int[] behind = {3, 3, 3, 3, 2, 2, 0};
        for (int width = 0; width <= 6; width++) {
            Run x = ofWidth("butt of width " + width, width);
            // of WIDTH 6 the edge is POINT's, too
            int edge = width == 6 ? 0 : 1;
            x.due(edge, "comes", 0, 11 + width, 9).due(edge, "comes", 0, 11 - width, 9).due(1, "comes", 0, 11, 9);
            x.due(behind[width], "comes", 0, 12 + width, 1).due(behind[width], "comes", 0, 11 - width, 8);
        }
    }

    /** "else FLAT (2), if no farther than 2 from 6, or from 18; else it GLANCES (3)". */
    private static void flatEdges() {
        for (int middle = 6; middle <= 18; middle += 12) {
            for (int width = 0; width <= 3; width++) {
                Run x = ofWidth("flat of width " + width, width);
                x.due(2, "comes", 0, middle - 3, 9).due(2, "comes", 0, middle + 1, 9).due(2, "comes", 0, middle - 1, 9);
                x.due(3, "comes", 0, middle - 3, 8).due(3, "comes", 0, middle + 2, 1);
            }
            int less = middle == 6 ? 0 : 1, more = 1 - less;
            Run x = ofWidth("flat of width 4", 4).due(less, "comes", 0, middle - 3, 9)
                    .due(more, "comes", 0, middle + 1, 9);
            x.due(2, "comes", 0, middle - 2, 1).due(2, "comes", 0, middle + 1, 8);
            Run y = ofWidth("flat of width 5", 5).due(less, "comes", 0, middle - 2, 9).due(more, "comes", 0, middle, 9);
            y.due(2, "comes", 0, middle - 1, 1).due(2, "comes", 0, middle, 8);
        }
    }

    /** WIDTH 6 reaches 6 and 18 from both ends: POINT is told ahead of BUTT, BUTT ahead of FLAT. */
    private static void pointAheadOfButt() {
        for (int kind = 1; kind <= 2; kind++) {
            Run x = new Run("width 6").knife(kind, 9, 1, 5).due(0, "comes", 0, 5, 9).due(0, "comes", 0, 17, 9);
            x.due(1, "comes", 0, 6, 1).due(0, "comes", 0, 5, 8).due(0, "comes", 0, 18, 1).due(1, "comes", 0, 17, 8);
        }
    }

    /** "UNKNOWN; OUTSIDE", of START and FEET. */
    private static void comesRefused() {
        int[] right = {0, 0, 1};
        new Run("comes without knives").still(Run.UNKNOWN, "comes", right).still(Run.UNKNOWN, "comes", 0, 24, 0);
        Run x = new Run("comes").knife(0, 1, 24, 0).still(0, "comes", 0, 0, 1).still(3, "comes", 0, 23, 40);
        x.stillEach(Run.UNKNOWN, "comes", right, 0, -1, 1, Run.LEAST, Run.MOST).still(Run.UNKNOWN, "comes", 1, -1, 0);
        x.stillEach(Run.OUTSIDE, "comes", right, 1, START).stillEach(Run.OUTSIDE, "comes", right, 2, FEET);
    }

    /** "It STICKS POINT first; a DOUBLE BUTT first, too"; a HATCHET doesn't; none FLAT or glancing. */
    private static void whatSticks() {
        Run x = new Run("what sticks").knife(0, 1, 24, 1).knife(1, 1, 24, 0).knife(2, 1, 24, 0);
        int all = Run.MOST;
        for (int start = 0; start < 24; start++) {
            boolean point = start <= 1 || start == 23, butt = start >= 11 && start <= 13;
            x.due(point ? all : 0, "sticks", 0, start).due(point ? all : 0, "sticks", 1, start);
            x.due(point || butt ? all : 0, "sticks", 2, start);
        }
    }

    /** "From which FEET (bit f less 1, of FEET 1 .. 31)". */
    private static void feetOfSticks() {
        Run x = new Run("feet 1 to 31").knife(0, 1, 1, 0).knife(0, 9, 1, 0);
        x.due(1 | 1 << 24, "sticks", 0, 23).due(1 << 6 | 1 << 30, "sticks", 0, 17).due(1 << 23, "sticks", 0, 0);
        // at 8 and 32 feet: 32 is not told
        x.due(1 << 7, "sticks", 0, 16).due(0, "comes", 0, 16, 32).due(0, "comes", 0, 17, 31);
        x.due(1 << 26, "sticks", 1, 21).due(0, "sticks", 1, 20).due(0, "comes", 1, 20, 36);
    }

    /** "UNKNOWN; OUTSIDE: START." */
    private static void sticksRefused() {
        new Run("sticks without knives").still(Run.UNKNOWN, "sticks", 0, 0).still(Run.UNKNOWN, "sticks", 0, 24);
        Run x = new Run("sticks").knife(0, 1, 24, 0).still(Run.MOST, "sticks", 0, 0).still(0, "sticks", 0, 23);
        x.stillEach(Run.UNKNOWN, "sticks", new int[] {0, 0}, 0, -1, 1, Run.LEAST, Run.MOST);
        x.still(Run.UNKNOWN, "sticks", 1, -1).stillEach(Run.OUTSIDE, "sticks", new int[] {0, 0}, 1, START);
    }
}
