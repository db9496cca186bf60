/** Everything that calls can tell of an object, as a text; looking takes its marks back. */
final class Look {
    private final KnifeBoard x;
    private final StringBuilder seen = new StringBuilder();
    private int calls = 0;

    private Look(KnifeBoard x) {
        this.x = x;
    }

    /** What is seen; the fault is left out, as a refused call may change that. */
    static String at(KnifeBoard x, int callsBefore) {
        Look look = new Look(x);
        look.parts();
        for (int k = 0; k < 4; k++) look.sheet(k);
        look.marks();
        Check.due("an object is used for 512 calls at most", callsBefore + look.calls <= Run.MOST_CALLS);
        return look.seen.toString();
    }

    private long see(String call, int... a) {
        calls++;
        long answer = Calls.answer(x, call, a);
        seen.append(call).append(' ').append(answer).append('\n');
        return answer;
    }

    private void parts() {
        see("trace");
        for (int what = 0; what <= 5; what++) see("many", what);
        long knives = see("many", 0), cells = see("many", 1);
        for (int k = 0; k < knives; k++) {
            for (int what = 0; what <= 3; what++) see("ofKnife", k, what);
        }
        for (int c = 0; c < cells; c++) see("ofCell", c);
        for (int row = 0; row < 3; row++) {
            for (int d = -2; d <= 2; d++) see("weight", row, d, 0);
        }
    }

    /** Its sort is the one by which cell 0 is there, or comes to an INDEX; nothing comes to a NULL. */
    private void sheet(int k) {
        for (int sort = 0; sort < 3; sort++) {
            long first = see("cell", k, 0, sort), fault = see("fault");
            if (first == Run.LOST && fault != 3) continue;
            for (int i = 0; i < 80 && see("cell", k, i, sort) != Run.LOST; i++) seen.append(i);
        }
    }

    private void marks() {
        long marks = see("many", 4);
        for (long left = marks; left > 0; left--) {
            see("guessed", 0, 0);
            see("guessed", 0, 1);
            see("back", 1);
        }
    }
}
