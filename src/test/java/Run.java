import java.util.ArrayList;
import java.util.Arrays;
import java.util.List;

/**
 * A run of calls on one object, with the answers that are due; no longer than the document lets an object be used.
 * Calls that must change nothing are asked of an object made again by the calls of the run, beside a twin.
 */
final class Run {
    static final int MOST_CALLS = 512;
    static final int UNKNOWN = -1, OUTSIDE = -2, STATE = -3, FULL = -4, NONE = -9;
    static final int NULL = -11, CAST = -12, INDEX = -13, SIZE = -14;
    static final long LOST = Long.MIN_VALUE;
    static final int LEAST = Integer.MIN_VALUE, MOST = Integer.MAX_VALUE;
    private static final List<String> NAMING = List.of("hand", "board", "order", "chalk", "byChalk", "sheet", "put",
            "cell", "copy", "as");

    private final String name;
    private final KnifeBoard x = new KnifeBoard();
    private final List<String> calls = new ArrayList<>();
    private final List<int[]> arguments = new ArrayList<>();
    private int knives = 0;

    Run(String name) {
        this.name = name;
    }

    private String told(String call, int[] a) {
        return name + ": " + call + Arrays.toString(a);
    }

    long ask(String call, int... a) {
        calls.add(call);
        arguments.add(a.clone());
        if (calls.size() > MOST_CALLS) Check.due(told(call, a) + " is one call too many", false);
        return Calls.answer(x, call, a);
    }

    Run due(long want, String call, int... a) {
        Check.due(told(call, a), ask(call, a), want);
        return this;
    }

    /** A share: both of its numbers, by the last argument of the call. */
    Run share(long upper, long lower, String call, int... a) {
        int[] both = Arrays.copyOf(a, a.length + 1);
        due(upper, call, both);
        both[a.length] = 1;
        return due(lower, call, both);
    }

    /** A call that answers so and changes nothing; fault() becomes what is due, or stays, if it names no FAULTS. */
    Run still(long want, String call, int... a) {
        boolean faulted = want <= NULL && want >= SIZE && NAMING.contains(call);
        return still(want, faulted ? (int) (-10 - want) : 0, call, a);
    }

    /** A call that is LOST by a FAULT, or by a refusal (0). */
    Run lost(int fault, String call, int... a) {
        return still(LOST, fault, call, a);
    }

    private Run still(long want, int fault, String call, int... a) {
        KnifeBoard asked = again(fault), twin = again(fault);
        int before = asked.fault();
        Check.due(told(call, a) + ", another fault before", before != 0 && before != fault);
        Check.due(told(call, a), Calls.answer(asked, call, a), want);
        Check.due(told(call, a) + ", fault()", asked.fault(), NAMING.contains(call) ? fault : before);
        String change = difference(Look.at(asked, calls.size() + 4), Look.at(twin, calls.size() + 4));
        Check.due(told(call, a) + " changed " + change, change.isEmpty());
        return this;
    }

    private static String difference(String seen, String was) {
        String[] now = seen.split("\n"), before = was.split("\n");
        for (int line = 0; line < now.length && line < before.length; line++) {
            if (!now[line].equals(before[line])) return before[line] + " to " + now[line];
        }
        return now.length == before.length ? "" : "how much there is";
    }

    /** The object once more, its fault another one than that which is due. */
    private KnifeBoard again(int fault) {
        KnifeBoard made = new KnifeBoard();
        for (int at = 0; at < calls.size(); at++) Calls.answer(made, calls.get(at), arguments.get(at));
        if (fault == 4) made.put(0, -1, 0);
        else made.sheet(0, 0, -1);
        return made;
    }

    // ---- what many runs begin with

    Run row(int k, int sort, int... numbers) {
        due(1, "sheet", k, sort, numbers.length);
        for (int i = 0; i < numbers.length; i++) due(1, "put", k, i, numbers[i]);
        return this;
    }

    Run text(int k, int sort, String text) {
        return row(k, sort, text.chars().toArray());
    }

    /** By sheet 3, which has nothing behind it. */
    Run hand(String text) {
        return text(3, 0, text).due(1, "hand", 3, 0, 0, text.length()).due(1, "lose", 3);
    }

    Run board(String text) {
        int cells = (text.charAt(1) - '0') * (text.charAt(2) - '0');
        return text(3, 0, text).due(cells, "board", 3, 0, 0, text.length()).due(1, "lose", 3);
    }

    Run knife(int kind, int pace, int turn, int band) {
        return due(knives++, "knife", kind, pace, turn, band);
    }

    /** Each of these numbers, in turn, at one place of a call's arguments. */
    Run stillEach(long want, String call, int[] right, int place, int... wrong) {
        for (int number : wrong) {
            int[] a = right.clone();
            a[place] = number;
            still(want, call, a);
        }
        return this;
    }
}
