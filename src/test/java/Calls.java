/** The calls of the face by name, so that tests can keep them in rows; of hurts() the flag is 0 or 1. */
final class Calls {
    private Calls() {
    }

    static long answer(KnifeBoard x, String call, int... a) {
        switch (call) {
            case "knife": return x.knife(a[0], a[1], a[2], a[3]);
            case "ofKnife": return x.ofKnife(a[0], a[1]);
            case "lies": return x.lies(a[0], a[1], a[2], a[3]);
            case "comes": return x.comes(a[0], a[1], a[2]);
            case "sticks": return x.sticks(a[0], a[1]);
            case "hand": return x.hand(a[0], a[1], a[2], a[3]);
            case "weight": return x.weight(a[0], a[1], a[2]);
            case "stage": return x.stage(a[0]);
            case "likely": return x.likely(a[0], a[1], a[2], a[3], a[4]);
            case "best": return x.best(a[0], a[1], a[2]);
            case "board": return x.board(a[0], a[1], a[2], a[3]);
            case "ofCell": return x.ofCell(a[0]);
            case "hurts": return x.hurts(a[0], a[1], a[2] != 0, a[3]);
            case "holds": return x.holds(a[0], a[1], a[2], a[3], a[4], a[5]);
            case "allowed": return x.allowed(a[0], a[1]);
            case "nearest": return x.nearest(a[0], a[1]);
            case "order": return x.order(a[0], a[1], a[2], a[3], a[4], a[5]);
            case "turned": return x.turned(a[0], a[1], a[2]);
            case "when": return x.when(a[0], a[1], a[2], a[3], a[4], a[5], a[6], a[7]);
            case "mark": return x.mark(a[0], a[1]);
            case "back": return x.back(a[0]);
            case "guessed": return x.guessed(a[0], a[1]);
            case "tells": return x.tells(a[0], a[1]);
            case "chalk": return x.chalk(a[0], a[1], a[2], a[3], a[4], a[5]);
            case "byChalk": return x.byChalk(a[0], a[1], a[2], a[3], a[4], a[5]);
            case "sheet": return x.sheet(a[0], a[1], a[2]);
            case "lose": return x.lose(a[0]);
            case "put": return x.put(a[0], a[1], a[2]);
            case "cell": return x.cell(a[0], a[1], a[2]);
            case "copy": return x.copy(a[0], a[1], a[2], a[3], a[4]);
            case "tell": return x.tell(a[0]);
            case "whet": return x.whet(a[0]);
            case "as": return x.as(a[0], a[1]);
            case "trace": return x.trace();
            case "fault": return x.fault();
            case "many": return x.many(a[0]);
            default: throw new IllegalArgumentException(call);
        }
    }
}
