import java.math.BigInteger;
import java.util.ArrayList;
import java.util.Arrays;
import java.util.List;
import java.util.regex.Matcher;
import java.util.regex.Pattern;

/**
 * The document once more, in another way than the program: real rows and classes whose faults the machine itself
 * finds, texts by regular expressions, and everything else by trying all there is.
 */
final class Model {
    static final int UNKNOWN = -1, OUTSIDE = -2, STATE = -3, FULL = -4, NONE = -9;
    static final long LOST = Long.MIN_VALUE;
    private static final String FIVE = "(?:[1-9][0-9]{4}|0[1-9][0-9]{3}|00[1-9][0-9]{2}|000[1-9][0-9]|0000[1-9])";
    private static final Pattern HAND = Pattern.compile("h" + FIVE + ";u" + FIVE + ";a" + FIVE + "(?:;t[1-9])?");

    private static class Knife {
        int kind, pace, turn, band, width;
    }

    private static final class Refusal extends RuntimeException {
        private static final long serialVersionUID = 1L;
        final int code;

        Refusal(int code) {
            super(null, null, false, false);
            this.code = code;
        }
    }

    private final List<Knife> knives = new ArrayList<>();
    private final List<int[]> marks = new ArrayList<>();
    private final Object[] sheets = new Object[4];
    private String hand = null;
    private char[][] board = new char[0][0];
    private int trace = 0;
    private int fault = 0;

    // ---- what a call answers

    /** The answer that is due to a call; of hurts() the flag is 0 or 1. */
    long answer(String call, int... a) {
        boolean names = List.of("hand", "board", "order", "chalk", "byChalk", "sheet", "put", "cell", "copy", "as")
                .contains(call);
        boolean isLong = List.of("lies", "likely", "hurts", "holds", "chalk", "byChalk", "cell").contains(call);
        if (names) fault = 0;
        int code;
        try {
            return dispatch(call, a);
        } catch (Refusal refusal) {
            code = refusal.code;
        } catch (NullPointerException e) {
            code = faulted(1);
        } catch (ClassCastException | ArrayStoreException e) {
            code = faulted(2);
        } catch (IndexOutOfBoundsException e) {
            code = faulted(3);
        } catch (NegativeArraySizeException e) {
            code = faulted(4);
        }
        return isLong ? LOST : code;
    }

    private int faulted(int number) {
        fault = number;
        return -10 - number;
    }

    private long dispatch(String call, int[] a) {
        switch (call) {
            case "knife": return knife(a[0], a[1], a[2], a[3]);
            case "ofKnife": return ofKnife(a[0], a[1]);
            case "lies": return lies(a[0], a[1], a[2], a[3]);
            case "comes": return comes(a[0], a[1], a[2]);
            case "sticks": return sticks(a[0], a[1]);
            case "hand": return hand(a[0], a[1], a[2], a[3]);
            case "weight": return weight(a[0], a[1], a[2]);
            case "stage": return stage(a[0]);
            case "likely": return likely(a[0], a[1], a[2], a[3], a[4]);
            case "best": return best(a[0], a[1], a[2]);
            case "board": return board(a[0], a[1], a[2], a[3]);
            case "ofCell": return ofCell(a[0]);
            case "hurts": return hurts(a[0], a[1], a[2] != 0, a[3]);
            case "holds": return holds(a[0], a[1], a[2], a[3], a[4], a[5]);
            case "allowed": return allowed(a[0], a[1]);
            case "nearest": return nearest(a[0], a[1]);
            case "order": return order(a[0], a[1], a[2], a[3], a[4], a[5]);
            case "turned": return turned(a[0], a[1], a[2]);
            case "when": return when(a);
            case "mark": return mark(a[0], a[1]);
            case "back": return back(a[0]);
            case "guessed": return guessed(a[0], a[1]);
            case "tells": return tells(a[0], a[1]);
            case "chalk": return chalk(a[0], a[1], a[2], a[3], a[4], a[5]);
            case "byChalk": return byChalk(a[0], a[1], a[2], a[3], a[4], a[5]);
            case "sheet": return sheet(a[0], a[1], a[2]);
            case "lose": return lose(a[0]);
            case "put": return put(a[0], a[1], a[2]);
            case "cell": return cell(a[0], a[1], a[2]);
            case "copy": return copy(a[0], a[1], a[2], a[3], a[4]);
            case "tell": return tell(a[0]);
            case "whet": return whet(a[0]);
            case "as": return as(a[0], a[1]);
            case "trace": return trace;
            case "fault": return fault;
            case "many": return many(a[0]);
            default: throw new IllegalArgumentException(call);
        }
    }

    private static void refuseUnless(boolean so, int code) {
        if (!so) throw new Refusal(code);
    }

    private static void in(int v, int least, int most) {
        refuseUnless(v >= least && v <= most, OUTSIDE);
    }

    private Knife known(int k) {
        refuseUnless(k >= 0 && k < knives.size(), UNKNOWN);
        return knives.get(k);
    }

    private static long share(long upper, long lower, int which) {
        BigInteger up = BigInteger.valueOf(upper), low = BigInteger.valueOf(lower);
        return (which == 0 ? up : low).divide(up.gcd(low)).longValueExact();
    }

    // ---- knives

    private int knife(int kind, int pace, int turn, int band) {
        in(kind, 0, 2);
        in(pace, 1, 9);
        in(turn, 1, 24);
        in(band, 0, 5);
        refuseUnless(knives.size() < 6, FULL);
        Knife k = new Knife();
        k.kind = kind;
        k.pace = pace;
        k.turn = turn;
        k.band = band;
        k.width = kind == 0 ? band : band + 1;
        knives.add(k);
        return knives.size() - 1;
    }

    private int ofKnife(int k, int what) {
        Knife knife = known(k);
        in(what, 0, 4);
        return new int[] {knife.kind, knife.pace, knife.turn, knife.band, knife.width}[what];
    }

    /** Upper number by pace, less whole turns one after another. */
    private static long upper(Knife k, int start, int turn, int f) {
        long up = (long) start * k.pace + (long) turn * f;
        while (up >= 24L * k.pace) up -= 24L * k.pace;
        return up;
    }

    private static boolean near(long up, int pace, int place, int far) {
        for (int turn = -1; turn <= 1; turn++) {
            if (Math.abs(up - (place + 24L * turn) * pace) <= (long) far * pace) return true;
        }
        return false;
    }

    private static int came(Knife k, int start, int turn, int f) {
        long up = upper(k, start, turn, f);
        if (near(up, k.pace, 0, k.width)) return 0;
        if (near(up, k.pace, 12, k.width)) return 1;
        return near(up, k.pace, 6, 2) || near(up, k.pace, 18, 2) ? 2 : 3;
    }

    private static boolean stuck(Knife k, int start, int f) {
        int came = came(k, start, k.turn, f);
        return came == 0 || came == 1 && k.kind == 2;
    }

    private long lies(int k, int start, int f, int which) {
        Knife knife = known(k);
        in(start, 0, 23);
        in(f, 1, 40);
        in(which, 0, 1);
        return share(upper(knife, start, knife.turn, f), knife.pace, which);
    }

    private int comes(int k, int start, int f) {
        Knife knife = known(k);
        in(start, 0, 23);
        in(f, 1, 40);
        return came(knife, start, knife.turn, f);
    }

    private int sticks(int k, int start) {
        Knife knife = known(k);
        in(start, 0, 23);
        int set = 0;
        for (int f = 31; f >= 1; f--) set = set << 1 | (stuck(knife, start, f) ? 1 : 0);
        return set;
    }

    // ---- texts

    private void refuseSheet(int k, int sort) {
        refuseUnless(k >= 0 && k <= 3, UNKNOWN);
        in(sort, 0, 2);
    }

    private int[] take(int k, int sort, int i, long n) {
        Object row = sheets[k];
        int length;
        if (sort == 0) length = ((byte[]) row).length;
        else if (sort == 1) length = ((short[]) row).length;
        else length = ((int[]) row).length;
        if (n < 0) throw new NegativeArraySizeException();
        if (i < 0 || i > length || i + n > length) throw new IndexOutOfBoundsException();
        int[] taken = new int[(int) n];
        for (int j = 0; j < n; j++) taken[j] = at(row, i + j);
        return taken;
    }

    private static int at(Object row, int i) {
        if (row instanceof byte[]) return ((byte[]) row)[i];
        if (row instanceof short[]) return ((short[]) row)[i];
        return ((int[]) row)[i];
    }

    private static String text(int[] codes) {
        StringBuilder text = new StringBuilder();
        for (int code : codes) text.append(code > 0 && code < 127 ? (char) code : '?');
        return text.toString();
    }

    private static void refuseText(String text, Pattern whole) {
        for (int n = 1; n <= text.length(); n++) {
            Matcher matcher = whole.matcher(text.substring(0, n));
            if (!matcher.matches() && !matcher.hitEnd()) throw new Refusal(-100 - (n - 1));
        }
        refuseUnless(whole.matcher(text).matches(), -100 - text.length());
    }

    private int hand(int k, int sort, int i, int n) {
        refuseSheet(k, sort);
        String text = text(take(k, sort, i, n));
        refuseText(text, HAND);
        hand = text;
        return 1;
    }

    private int board(int k, int sort, int i, int n) {
        refuseSheet(k, sort);
        String text = text(take(k, sort, i, n));
        String whole = "b[1-6][1-6];[wkxy].*";
        if (text.length() >= 3 && text.substring(0, 3).matches("b[1-6][1-6]")) {
            whole = "b[1-6][1-6](?:;[wkxy]{" + text.charAt(2) + "}){" + text.charAt(1) + "}";
        }
        refuseText(text, Pattern.compile(whole));
        String[] rows = text.split(";");
        board = new char[rows.length - 1][];
        for (int r = 1; r < rows.length; r++) board[r - 1] = rows[r].toCharArray();
        return cells();
    }

    // ---- the hand

    private int weighs(int row, int d, int stage) {
        int weight = hand.charAt(7 * row + 3 + d) - '0';
        for (int s = 0; s < stage && d != 0 && weight < 9; s++) weight++;
        return weight;
    }

    private int tires() {
        return hand == null || hand.length() < 23 ? 0 : hand.charAt(22) - '0';
    }

    private int stageOf(int n) {
        int stage = 0;
        for (int thrown = tires(); tires() > 0 && thrown <= n && stage < 9; thrown += tires()) stage++;
        return stage;
    }

    private int weight(int row, int d, int stage) {
        refuseUnless(row >= 0 && row <= 2, UNKNOWN);
        in(d, -2, 2);
        in(stage, 0, 9);
        refuseUnless(hand != null, STATE);
        return weighs(row, d, stage);
    }

    private int stage(int n) {
        in(n, 0, 9999);
        refuseUnless(hand != null, STATE);
        return stageOf(n);
    }

    private long[] likely(Knife knife, int start, int f, int stage) {
        long up = 0, low = 0;
        for (int d = -2; d <= 2; d++) {
            low += weighs(0, d, stage);
            if (stuck(knife, Math.floorMod(start + d, 24), f)) up += weighs(0, d, stage);
        }
        return new long[] {up, low};
    }

    private long likely(int k, int start, int f, int stage, int which) {
        Knife knife = known(k);
        in(start, 0, 23);
        in(f, 1, 40);
        in(stage, 0, 9);
        in(which, 0, 1);
        refuseUnless(hand != null, STATE);
        long[] share = likely(knife, start, f, stage);
        return share(share[0], share[1], which);
    }

    private int best(int k, int stage, int what) {
        Knife knife = known(k);
        in(stage, 0, 9);
        in(what, 0, 1);
        refuseUnless(hand != null, STATE);
        int feet = 1, start = 0;
        for (int f = 40; f >= 1; f--) {
            for (int s = 23; s >= 0; s--) {
                if (likely(knife, s, f, stage)[0] >= likely(knife, start, feet, stage)[0]) {
                    feet = f;
                    start = s;
                }
            }
        }
        return what == 0 ? feet : start;
    }

    // ---- the board

    private int high() {
        return board.length;
    }

    private int wide() {
        return board.length == 0 ? 0 : board[0].length;
    }

    private int cells() {
        return high() * wide();
    }

    private void knowCell(int c) {
        refuseUnless(c >= 0 && c < cells(), UNKNOWN);
    }

    private static char seen(char[][] cells, int row, int column) {
        if (row < 0 || row >= cells.length || column < 0 || column >= cells[0].length) return '-';
        return cells[row][column];
    }

    private int ofCell(int c) {
        knowCell(c);
        return "wkxy".indexOf(board[c / wide()][c % wide()]);
    }

    private long[] comesTo(char[][] cells, String letters, int c, int stage) {
        long up = 0, low = 0;
        for (int u = -2; u <= 2; u++) {
            for (int a = -2; a <= 2; a++) {
                long weight = weighs(1, u, stage) * weighs(2, a, stage);
                low += weight;
                if (letters.indexOf(seen(cells, c / wide() - u, c % wide() + a)) >= 0) up += weight;
            }
        }
        return new long[] {up, low};
    }

    private long hurts(int c, int stage, boolean in, int which) {
        knowCell(c);
        in(stage, 0, 9);
        in(which, 0, 1);
        refuseUnless(hand != null, STATE);
        long[] share = comesTo(board, in ? "xy" : "x", c, stage);
        return share(share[0], share[1], which);
    }

    private long holds(int k, int start, int f, int c, int stage, int which) {
        Knife knife = known(k);
        knowCell(c);
        in(start, 0, 23);
        in(f, 1, 40);
        in(stage, 0, 9);
        in(which, 0, 1);
        refuseUnless(hand != null, STATE);
        long[] there = comesTo(board, "w", c, stage), fast = likely(knife, start, f, stage);
        return share(there[0] * fast[0], there[1] * fast[1], which);
    }

    // ---- rules, orders

    private boolean isAllowed(int c, int m, int stage) {
        long[] in = comesTo(board, "xy", c, stage), out = comesTo(board, "x", c, stage);
        return ofCell(c) == 0 && in[0] * 1000 <= m * in[1] && out[0] * 1000 <= m * out[1];
    }

    private void refuseRule(int m, int stage) {
        in(m, 0, 1000);
        in(stage, 0, 9);
        refuseUnless(hand != null && cells() > 0, STATE);
    }

    private int allowed(int m, int stage) {
        refuseRule(m, stage);
        int set = 0;
        for (int c = 0; c < cells() && c < 31; c++) if (isAllowed(c, m, stage)) set += 1 << c;
        return set;
    }

    private int about(int c) {
        int sum = 0;
        for (int other = 0; other < cells(); other++) {
            int down = Math.abs(other / wide() - c / wide()), across = Math.abs(other % wide() - c % wide());
            if (other != c && down <= 1 && across <= 1 && ofCell(other) >= 2) sum++;
        }
        return sum;
    }

    private int nearest(int m, int stage) {
        refuseRule(m, stage);
        int found = NONE;
        for (int c = cells() - 1; c >= 0; c--) {
            if (isAllowed(c, m, stage) && (found == NONE || about(c) >= about(found))) found = c;
        }
        return found;
    }

    private int order(int first, int k, int sort, int i, int n, int q) {
        refuseSheet(k, sort);
        in(first, 0, 9999);
        int[] taken = take(k, sort, i, n);
        in(n, 1, 6);
        for (int c : taken) knowCell(c);
        refuseUnless(Arrays.stream(taken).distinct().count() == n, OUTSIDE);
        refuseUnless(q >= -1 && q <= 5, UNKNOWN);
        refuseUnless(hand != null, STATE);
        if (q >= n) return NONE;
        int[][] millionths = new int[cells()][];
        for (int c : taken) millionths[c] = millionths(c, first);
        int[] least = null;
        for (int[] row : rows(taken, new ArrayList<>(), new ArrayList<>())) {
            int more = least == null ? -1 : sum(row, millionths) - sum(least, millionths);
            if (more < 0 || more == 0 && Arrays.compare(row, least) < 0) least = row;
        }
        return q < 0 ? sum(least, millionths) : least[q];
    }

    private static List<int[]> rows(int[] cells, List<Integer> begun, List<int[]> found) {
        if (begun.size() == cells.length) found.add(begun.stream().mapToInt(Integer::intValue).toArray());
        for (int c : cells) {
            if (begun.contains(c)) continue;
            begun.add(c);
            rows(cells, begun, found);
            begun.remove(begun.size() - 1);
        }
        return found;
    }

    private int[] millionths(int c, int first) {
        int[] each = new int[6];
        for (int j = 0; j < 6; j++) {
            long[] share = comesTo(board, "xy", c, stageOf(first + j));
            each[j] = (int) (share[0] * 1000000 / share[1]);
        }
        return each;
    }

    private static int sum(int[] row, int[][] millionths) {
        int sum = 0;
        for (int j = 0; j < row.length; j++) sum += millionths[row[j]][j];
        return sum;
    }

    // ---- the wheel

    private char[][] quarter(char[][] cells) {
        int n = cells.length;
        char[][] after = new char[n][n];
        for (int r = 0; r < n; r++) for (int c = 0; c < n; c++) after[c][n - 1 - r] = cells[r][c];
        return after;
    }

    private char[][] room(int q, int tick) {
        char[][] cells = board;
        for (int t = 0; t < tick / q % 4; t++) cells = quarter(cells);
        return cells;
    }

    private int turned(int c, int q, int tick) {
        knowCell(c);
        in(q, 1, 60);
        in(tick, 0, 99999);
        refuseUnless(high() == wide(), STATE);
        return "wkxy".indexOf(room(q, tick)[c / wide()][c % wide()]);
    }

    private int when(int[] a) {
        int f = a[1], c = a[2], q = a[3], p = a[4], k = a[5], m = a[6], from = a[7];
        Knife knife = known(a[0]);
        knowCell(c);
        in(f, 1, 40);
        in(q, 1, 60);
        in(p, 1, 60);
        in(k, 0, p);
        in(m, 0, 1000);
        in(from, 0, 9999);
        refuseUnless(hand != null && high() == wide(), STATE);
        int flight = 0;
        while (flight * knife.pace < f) flight++;
        char[][][] rooms = {room(q, 0), room(q, q), room(q, 2 * q), room(q, 3 * q)};
        for (int t = from; t <= from + 1000; t++) {
            boolean in = (t + flight) % p < k;
            long[] share = comesTo(rooms[(t + flight) % (4 * q) / q], in ? "xy" : "x", c, 0);
            if (share[0] * 1000 <= m * share[1]) return t;
        }
        return NONE;
    }

    // ---- marks, chalk

    private int mark(int f, int came) {
        in(f, 1, 40);
        in(came, 0, 3);
        refuseUnless(marks.size() < 10, FULL);
        marks.add(new int[] {f, came});
        return marks.size() - 1;
    }

    private int back(int k) {
        in(k, 0, marks.size());
        for (int j = 0; j < k; j++) marks.remove(marks.size() - 1);
        return marks.size();
    }

    private List<int[]> thrown(Knife knife) {
        List<int[]> ways = new ArrayList<>();
        for (int start = 0; start < 24; start++) {
            for (int turn = 1; turn <= 24; turn++) {
                boolean so = true;
                for (int[] mark : marks) so &= came(knife, start, turn, mark[0]) == mark[1];
                if (so) ways.add(new int[] {start, turn});
            }
        }
        return ways;
    }

    private int guessed(int k, int what) {
        Knife knife = known(k);
        in(what, 0, 1);
        List<int[]> ways = thrown(knife);
        if (what == 0) return ways.size();
        return ways.isEmpty() ? NONE : 100 * ways.get(0)[0] + ways.get(0)[1];
    }

    private int tells(int k, int what) {
        Knife knife = known(k);
        in(what, 0, 1);
        List<int[]> ways = thrown(knife);
        if (ways.isEmpty()) return NONE;
        int feet = 0, fewest = Integer.MAX_VALUE;
        for (int f = 40; f >= 1; f--) {
            int worst = 0;
            for (int how = 0; how < 4; how++) {
                int left = 0;
                for (int[] way : ways) if (came(knife, way[0], way[1], f) == how) left++;
                worst = Math.max(worst, left);
            }
            if (worst <= fewest) {
                fewest = worst;
                feet = f;
            }
        }
        return what == 0 ? feet : fewest;
    }

    private int[] chalkRows(int k, int sort, int i, int n) {
        refuseSheet(k, sort);
        int[] taken = take(k, sort, i, 2L * n);
        in(n, 1, 40);
        for (int far : taken) in(far, -99, 99);
        return taken;
    }

    private long chalk(int k, int sort, int i, int n, int what, int which) {
        int[] rows = chalkRows(k, sort, i, n);
        in(what, 0, 3);
        in(which, 0, 1);
        long sum = 0, far = 0;
        for (int j = what & 1; j < rows.length; j += 2) {
            sum += rows[j];
            far += Math.abs(rows[j]);
        }
        return what < 2 ? share(sum, n, which) : which == 0 ? far : 1;
    }

    private long byChalk(int c, int k, int sort, int i, int n, int which) {
        knowCell(c);
        int[] rows = chalkRows(k, sort, i, n);
        in(which, 0, 1);
        int hurt = 0;
        for (int j = 0; j < n; j++) {
            if ("xy".indexOf(seen(board, c / wide() - rows[2 * j], c % wide() + rows[2 * j + 1])) >= 0) hurt++;
        }
        return share(hurt, n, which);
    }

    // ---- sheets, telling

    private int sheet(int k, int sort, int n) {
        refuseSheet(k, sort);
        refuseUnless(n <= 80, OUTSIDE);
        sheets[k] = sort == 0 ? new byte[n] : sort == 1 ? new short[n] : new int[n];
        return 1;
    }

    private int lose(int k) {
        refuseUnless(k >= 0 && k <= 3, UNKNOWN);
        boolean had = sheets[k] != null;
        sheets[k] = null;
        return had ? 1 : 0;
    }

    private int put(int k, int i, int v) {
        refuseUnless(k >= 0 && k <= 3, UNKNOWN);
        Object row = sheets[k];
        if (row instanceof byte[]) ((byte[]) row)[i] = (byte) v;
        else if (row instanceof short[]) ((short[]) row)[i] = (short) v;
        else ((int[]) row)[i] = v;
        return 1;
    }

    private long cell(int k, int i, int sort) {
        refuseSheet(k, sort);
        if (sort == 0) return ((byte[]) sheets[k])[i];
        if (sort == 1) return ((short[]) sheets[k])[i];
        return ((int[]) sheets[k])[i];
    }

    private int copy(int k, int i, int other, int j, int n) {
        refuseUnless(k >= 0 && k <= 3 && other >= 0 && other <= 3, UNKNOWN);
        System.arraycopy(sheets[k], i, sheets[other], j, n);
        return n;
    }

    private void leave(int... numbers) {
        for (int number : numbers) trace = 31 * trace + number;
    }

    private int tell(int k) {
        Knife knife = known(k);
        if (knife.kind == 0) leave(1);
        else if (knife.kind == 1) leave(2, 1);
        else leave(3, 2, 1, 1);
        return knife.kind == 0 ? knife.pace : knife.kind == 1 ? knife.pace + 100 : 2 * knife.pace + 100;
    }

    private int whet(int k) {
        Knife knife = known(k);
        leave(knife.kind == 2 ? 5 : 4);
        return knife.kind == 2 ? 20 : k;
    }

    private int as(int k, int kind) {
        Knife knife = known(k);
        in(kind, 0, 2);
        if (knife.kind < kind) throw new ClassCastException();
        return 1;
    }

    private int many(int what) {
        in(what, 0, 5);
        return new int[] {knives.size(), cells(), high(), wide(), marks.size(), tires()}[what];
    }
}
