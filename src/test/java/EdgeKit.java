import java.util.function.Supplier;

/**
 * What the tests of the edges share: the sentence of the document that is
 * tried, and calls that are refused or come to a fault, each on an object of
 * its own, which must be as it was.
 */
abstract class EdgeKit extends TestKit {
    /** A call on an object. */
    interface Call {
        long of(HourDoors x);
    }

    private static int promise = 0;
    private static String sentence = "";

    /** What follows tries a sentence of a promise, or of the terms that it uses. */
    static void on(int ofPromise, String text) {
        promise = ofPromise;
        sentence = text;
    }

    static void due(String call, long got, long want) {
        due(promise, "\"" + sentence + "\": " + call, got, want);
    }

    /** The numbers beside low .. high, and the farthest that there are. */
    static int[] beside(int low, int high) {
        return new int[] {low - 1, high + 1, LOW, HIGH};
    }

    /**
     * An object in which all that can change has changed: 4 rooms, 3 doors (a
     * plain, a late one, a cupboard), 2 readings, rows of each lane on sheets
     * 0 .. 2 and nothing on sheet 3, a trace.
     */
    static HourDoors furnished() {
        HourDoors x = new HourDoors();
        write(x, 0, 0, 0, "d4;p011;l123;c230", 0);
        x.house(0, 0, 0, 17);
        row(x, 1, 1, 3, 0, 3, 9, -7);
        row(x, 2, 2, 70000, 1, -1);
        x.reading(0, 2, 3);
        x.reading(2, 1, NONE);
        x.tell(2);
        x.knock(0);
        return x;
    }

    /** All that an object's calls tell of it, but for fault(), which the asking itself changes. */
    static String told(HourDoors x) {
        StringBuilder all = new StringBuilder();
        for (int what = 0; what < 3; what++) all.append(x.many(what)).append(' ');
        for (int d = 0; d < x.many(0); d++) {
            for (int what = 0; what < 4; what++) all.append(x.ofDoor(d, what));
            all.append(' ').append(x.steps(d)).append(' ').append(x.targets(d)).append(' ').append(x.kinds(d));
            all.append(';');
        }
        all.append(x.trace());
        for (int k = 0; k < 4; k++) all.append(" [").append(cellsOf(x, k)).append(']');
        return all.toString();
    }

    private static String cellsOf(HourDoors x, int k) {
        StringBuilder cells = new StringBuilder();
        for (int lane = 0; lane < 3; lane++) {
            for (int i = 0; i < 60; i++) {
                long cell = x.cell(k, i, lane);
                if (cell == LOST) break;
                cells.append(cell).append(' ');
            }
            cells.append("lane ").append(lane).append(" fault ").append(x.fault()).append(' ');
        }
        return cells.toString();
    }

    /** A call that names no faults is refused: nothing changes, fault() neither. */
    static void refuses(String call, long want, Call tried) {
        refuses(call, want, EdgeKit::furnished, tried);
    }

    static void refuses(String call, long want, Supplier<HourDoors> maker, Call tried) {
        answersAndLeaves(call, want, 1, 1, maker, tried);
    }

    /** A call that names faults is refused: nothing changes but fault(), which is 0. */
    static void refusesByName(String call, long want, Call tried) {
        answersAndLeaves(call, want, 1, 0, EdgeKit::furnished, tried);
    }

    /** A call comes to a fault (NULL ..): nothing changes but fault(), which tells it. */
    static void faults(String call, int want, Call tried) {
        faults(call, want, EdgeKit::furnished, tried);
    }

    static void faults(String call, int want, Supplier<HourDoors> maker, Call tried) {
        answersAndLeaves(call, want, want == NULL ? 4 : 1, -10 - want, maker, tried);
    }

    /** As faults(..), of a call that answers a long. */
    static void losesBy(String call, int want, Call tried) {
        answersAndLeaves(call, LOST, want == NULL ? 4 : 1, -10 - want, EdgeKit::furnished, tried);
    }

    private static void answersAndLeaves(String call, long want, int faultAhead, int faultBehind,
            Supplier<HourDoors> maker, Call tried) {
        HourDoors x = maker.get();
        if (faultAhead == 1) x.put(3, 0, 0);
        else x.sheet(3, 0, -1);
        due("the fault ahead of " + call, x.fault(), faultAhead);
        due(call, tried.of(x), want);
        due(call + ", then fault()", x.fault(), faultBehind);
        due(call + ", then all is as it was: 1", told(x).equals(told(maker.get())) ? 1 : 0, 1);
    }
}
