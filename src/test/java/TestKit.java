/** What the tests share: calls held against the answer that is due, and the writing of texts and rows. */
abstract class TestKit {
    static final int UNKNOWN = -1, OUTSIDE = -2, STATE = -3, FULL = -4, NONE = -9;
    static final int NULL = -11, CAST = -12, INDEX = -13, SIZE = -14;
    static final long LOST = Long.MIN_VALUE;
    static final int LOW = Integer.MIN_VALUE, HIGH = Integer.MAX_VALUE;

    private static int wrong = 0;
    private static int asked = 0;

    static void due(int promise, String call, long got, long want) {
        asked++;
        if (got == want) return;
        wrong++;
        System.out.println("promise " + promise + ": " + call + " answered " + got + ", due is " + want);
    }

    /** Tells how it went; the exit code is 1 if an answer was not as due. */
    static void end() {
        System.out.println(asked + " answers held against what is due, " + wrong + " not as due");
        if (wrong != 0 || asked == 0) System.exit(1);
    }

    /** Writes a text on a sheet from a place on, and zeros ahead of and behind it. */
    static void write(HourDoors x, int k, int lane, int ahead, String text, int behind) {
        x.sheet(k, lane, ahead + text.length() + behind);
        for (int i = 0; i < text.length(); i++) x.put(k, ahead + i, text.charAt(i));
    }

    static int take(HourDoors x, String text) {
        write(x, 3, 2, 0, text, 0);
        return x.house(3, 2, 0, text.length());
    }

    static HourDoors houseOf(String text) {
        HourDoors x = new HourDoors();
        take(x, text);
        return x;
    }

    static void row(HourDoors x, int k, int lane, int... cells) {
        x.sheet(k, lane, cells.length);
        for (int i = 0; i < cells.length; i++) x.put(k, i, cells[i]);
    }

    static int traceOf(int... bodies) {
        int trace = 0;
        for (int body : bodies) trace = 31 * trace + body;
        return trace;
    }
}
