import java.util.Arrays;

/** Many runs of calls, ordinary ones and wrong ones, each answer beside the model's. */
public final class ModelTest {
    private static final int CALLS_OF_A_RUN = 512;
    private static final int[] STRANGE = {Integer.MIN_VALUE, Integer.MIN_VALUE + 1, -1000, -101, -100, -2, -1, 0, 1, 2,
        3, 4, 5, 6, 9, 10, 23, 24, 25, 36, 39, 40, 41, 60, 61, 80, 81, 999, 1000, 1001, 9999, 10000, 99999, 100000,
        1073741823, 1073741824, 1073741825, Integer.MAX_VALUE - 1, Integer.MAX_VALUE};
    private static long seed;
    private static KnifeBoard real;
    private static Model model;
    private static int run;
    private static int made;
    private static int[] sorts = new int[4];

    private ModelTest() {
    }

    public static void main(String[] args) {
        int runs = args.length > 0 ? Integer.parseInt(args[0]) : 500;
        for (run = 0; run < runs && !Check.isWrong(); run++) {
            seed = 7919L * run + (args.length > 1 ? Long.parseLong(args[1]) : 17);
            real = new KnifeBoard();
            model = new Model();
            made = 0;
            Arrays.fill(sorts, 0);
            if (upTo(8) != 0) writeHand(false);
            if (upTo(8) != 0) writeBoard(false);
            for (int k = upTo(7); k > 0; k--) ask("knife", upTo(3), 1 + upTo(9), 1 + upTo(24), upTo(6));
            while (made < CALLS_OF_A_RUN) anyCall();
        }
        Check.end();
    }

    private static int upTo(int n) {
        seed = seed * 6364136223846793005L + 1442695040888963407L;
        return (int) Long.remainderUnsigned(seed >>> 24, n);
    }

    /** Mostly a number from least to most, at times one beside it, seldom a strange one. */
    private static int some(int least, int most) {
        int die = upTo(60);
        if (die == 0) return STRANGE[upTo(STRANGE.length)];
        if (die == 1) return least - 1;
        if (die == 2) return most + 1;
        if (die == 3) return most;
        if (die == 4) return least;
        return least + upTo(most - least + 1);
    }

    private static void ask(String call, int... a) {
        if (made >= CALLS_OF_A_RUN) return;
        made++;
        long want = model.answer(call, a);
        long got;
        try {
            got = Calls.answer(real, call, a);
        } catch (RuntimeException e) {
            Check.due("run " + run + " call " + made + ": " + call + Arrays.toString(a) + " threw " + e, false);
            return;
        }
        Check.due("run " + run + " call " + made + ": " + call + Arrays.toString(a), got, want);
    }

    private static void write(int k, int sort, String text, int before) {
        ask("sheet", k, sort, Math.min(80, before + text.length()));
        sorts[k] = sort;
        for (int i = 0; i < text.length(); i++) ask("put", k, before + i, text.charAt(i));
    }

    private static String spoilt(String text) {
        if (upTo(3) != 0) return text;
        int at = upTo(text.length());
        if (upTo(3) == 0) return text.substring(0, at);
        if (upTo(3) == 0) return text + "hua;t0123wkxyb".charAt(upTo(14));
        return text.substring(0, at) + "hua;t0123wkxyb".charAt(upTo(14)) + text.substring(at + 1);
    }

    private static String digits() {
        StringBuilder five = new StringBuilder();
        int most = 1 + upTo(10);
        for (int d = 0; d < 5; d++) five.append(upTo(2) == 0 ? 0 : upTo(most));
        return upTo(9) != 0 && five.toString().equals("00000") ? "00100" : five.toString();
    }

    private static void writeHand(boolean perhapsSpoilt) {
        String text = "h" + digits() + ";u" + digits() + ";a" + digits();
        if (upTo(3) != 0) text += ";t" + (1 + upTo(9));
        if (perhapsSpoilt) text = spoilt(text);
        int k = upTo(4), sort = upTo(3), before = upTo(3) == 0 ? upTo(5) : 0;
        write(k, sort, text, before);
        ask("hand", k, upTo(20) == 0 ? some(0, 2) : sort, before, text.length());
        ask("fault");
        ask("many", 5);
    }

    private static void writeBoard(boolean perhapsSpoilt) {
        int high = 1 + upTo(6), wide = upTo(3) != 0 ? high : 1 + upTo(6);
        String[] kinds = {"wwwwwxyk", "wwwwwwwwwwwwwxy", "xxyyyw"};
        String letters = kinds[upTo(3)];
        StringBuilder text = new StringBuilder("b").append(high).append(wide);
        for (int row = 0; row < high; row++) {
            text.append(';');
            for (int c = 0; c < wide; c++) text.append(letters.charAt(upTo(letters.length())));
        }
        String written = perhapsSpoilt ? spoilt(text.toString()) : text.toString();
        int k = upTo(4), sort = upTo(3), before = upTo(3) == 0 ? upTo(5) : 0;
        write(k, sort, written, before);
        ask("board", k, upTo(20) == 0 ? some(0, 2) : sort, before, written.length());
        ask("fault");
        ask("many", 1);
    }

    private static int cell() {
        int cells = (int) model.answer("many", 1);
        return some(0, Math.max(0, cells - 1));
    }

    private static int knife() {
        int knives = (int) model.answer("many", 0);
        return some(0, Math.max(0, knives - 1));
    }

    private static int sortOf(int k) {
        return upTo(15) == 0 || k < 0 || k > 3 ? some(0, 2) : sorts[k];
    }

    private static void writeSheet() {
        int k = some(0, 3), sort = some(0, 2);
        boolean made = k >= 0 && k <= 3 && sort >= 0 && sort <= 2;
        int n = upTo(4) == 0 ? some(0, 80) : upTo(13);
        ask("sheet", k, sort, n);
        ask("fault");
        if (!made || n < 0 || n > 80) return;
        sorts[k] = sort;
        int how = upTo(3);
        for (int i = 0; i < n && i < 16; i++) {
            int v = how == 0 ? cell() : how == 1 ? upTo(7) - 3 : upTo(3) == 0 ? upTo(Integer.MAX_VALUE) : some(-99, 99);
            ask("put", k, i, v);
        }
    }

    private static void writeCells() {
        int k = upTo(4), sort = upTo(3), n = 1 + upTo(6), cells = (int) model.answer("many", 1);
        ask("sheet", k, sort, n);
        sorts[k] = sort;
        int c = cells == 0 ? 0 : upTo(cells);
        for (int i = 0; i < n; i++) {
            ask("put", k, i, c);
            if (cells > 0) c = (c + 1 + upTo(Math.max(1, cells / 6))) % cells;
        }
        for (int q = -1; q <= n; q++) ask("order", upTo(4) == 0 ? some(0, 9999) : upTo(30), k, sort, 0, n, q);
    }

    private static void anyCall() {
        int k = some(0, 3), die = upTo(120);
        if (die < 60) askOfThrows(die % 20);
        else if (die < 90) askOfSheets(die % 15, k);
        else if (die < 92) writeHand(true);
        else if (die < 94) writeBoard(true);
        else if (die < 98) writeSheet();
        else if (die < 102) writeCells();
        else if (die == 102) ask("tells", knife(), some(0, 1));
        else if (die == 103 || die == 104) ask("guessed", knife(), some(0, 1));
        else if (die == 105) ask("best", knife(), some(0, 9), some(0, 1));
        else if (die < 108) ask("when", knife(), some(1, 40), cell(), some(1, 60), some(40, 60), some(0, 60),
                upTo(3) == 0 ? some(0, 1000) : upTo(2) == 0 ? upTo(200) : 0, some(0, 9999));
        else if (die == 108) ask("knife", some(0, 2), some(1, 9), some(1, 24), some(0, 5));
        else if (die < 112) ask("fault");
        else if (die < 114) ask("trace");
        else ask("many", some(0, 5));
    }

    private static void askOfThrows(int die) {
        switch (die) {
            case 0: ask("ofKnife", knife(), some(0, 4)); break;
            case 1: case 2: ask("lies", knife(), some(0, 23), some(1, 40), some(0, 1)); break;
            case 3: case 4: ask("comes", knife(), some(0, 23), some(1, 40)); break;
            case 5: ask("sticks", knife(), some(0, 23)); break;
            case 6: ask("weight", some(0, 2), some(-2, 2), some(0, 9)); break;
            case 7: ask("stage", upTo(2) == 0 ? some(0, 9999) : upTo(90)); break;
            case 8: ask("likely", knife(), some(0, 23), some(1, 40), some(0, 9), some(0, 1)); break;
            case 9: ask("ofCell", cell()); break;
            case 10: case 11: ask("hurts", cell(), some(0, 9), upTo(2), some(0, 1)); break;
            case 12: case 13: ask("holds", knife(), some(0, 23), some(1, 40), cell(), some(0, 9), some(0, 1)); break;
            case 14: ask("allowed", some(0, 1000) / (1 + upTo(5)), some(0, 9)); break;
            case 15: ask("nearest", some(0, 1000) / (1 + upTo(5)), some(0, 9)); break;
            case 16: case 17: ask("turned", cell(), some(1, 60), some(0, 99999)); break;
            case 18: ask("mark", some(1, 40), some(0, 3)); break;
            default: ask("back", some(0, 2)); break;
        }
    }

    private static void askOfSheets(int die, int k) {
        switch (die) {
            case 0: ask("lose", upTo(4) == 0 ? k : -1); break;
            case 1: case 2: ask("put", k, some(0, 12), some(-40000, 40000)); break;
            case 3: case 4: ask("cell", k, some(0, 12), sortOf(k)); break;
            case 5: case 6: ask("copy", k, some(0, 8), some(0, 3), some(0, 8), some(0, 8)); break;
            case 7: ask("tell", knife()); break;
            case 8: ask("whet", knife()); break;
            case 9: ask("as", knife(), some(0, 2)); break;
            case 10: ask("hand", k, sortOf(k), some(0, 3), some(0, 23)); break;
            case 11: ask("board", k, sortOf(k), some(0, 3), some(0, 20)); break;
            case 12: ask("order", some(0, 9999), k, sortOf(k), some(0, 3), some(1, 6), some(-1, 5)); break;
            case 13: ask("chalk", k, sortOf(k), some(0, 3), some(1, 5), some(0, 3), some(0, 1)); break;
            default: ask("byChalk", cell(), k, sortOf(k), some(0, 3), some(1, 5), some(0, 1)); break;
        }
        ask("fault");
    }
}
