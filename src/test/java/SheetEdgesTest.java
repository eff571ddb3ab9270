/** The edges of promises 19 to 29, and of the terms' part 5: each sentence has a test of its own. */
public final class SheetEdgesTest extends EdgeKit {
    public static void main(String[] args) {
        sheetNumbers();
        sheetOfNoneToSixty();
        sheetOfZeros();
        sheetUnknown();
        sheetOutside();
        sheetSize();
        sheetOrder();
        loseWhatThereIs();
        loseUnknown();
        putCutToItsLane();
        putFirstAndLast();
        putUnknown();
        putNull();
        putIndex();
        putOrder();
        cellOfALane();
        cellRefused();
        cellCast();
        cellNull();
        cellIndex();
        cellOrder();
        copyAsTheyWere();
        copyOfNone();
        copyUnknown();
        copyNull();
        copyCast();
        copyIndex();
        copyOrder();
        tellings();
        tellUnknown();
        knocks();
        knockUnknown();
        asTaken();
        asUnknown();
        asOutside();
        asCast();
        traceAtFirst();
        traceWraps();
        faultAtFirst();
        faultOfTheLatest();
        faultOfNone();
        faultOfTheRefused();
        faultIsLeftByOthers();
        manyWithoutAHouse();
        manyOutside();
        fiveHundredAndTwelveCalls();
        end();
    }

    private static int[] ends(int lane) {
        if (lane == 0) return new int[] {Byte.MIN_VALUE, Byte.MAX_VALUE};
        return lane == 1 ? new int[] {Short.MIN_VALUE, Short.MAX_VALUE} : new int[] {LOW, HIGH};
    }

    // ---- promise 19

    private static void sheetNumbers() {
        on(19, "SHEETS 0 .. 3 have nothing (at first), or a row");
        HourDoors x = new HourDoors();
        for (int k = 0; k < 4; k++) {
            due("nothing on " + k, x.put(k, 0, 1), NULL);
            due("a row for " + k, x.sheet(k, k % 3, k + 1), 1);
            due("its last cell", x.put(k, k, k + 5), 1);
            due("no more", x.put(k, k + 1, 9), INDEX);
        }
        for (int k = 0; k < 4; k++) due("each its own", x.cell(k, k, k % 3), k + 5);
    }

    private static void sheetOfNoneToSixty() {
        on(19, "a row of 0 .. 60 numbers");
        for (int lane = 0; lane < 3; lane++) {
            for (int n = 0; n <= 60; n++) {
                HourDoors x = new HourDoors();
                due(n + " cells", x.sheet(0, lane, n), 1);
                due("how many: a text of them ends there", x.house(0, lane, n, 0), -100);
                due("one more", x.house(0, lane, n + 1, 0), INDEX);
                due("the last", x.put(0, n - 1, 1), n == 0 ? INDEX : 1);
                due("behind the last", x.put(0, n, 1), INDEX);
            }
        }
    }

    private static void sheetOfZeros() {
        on(19, "A SHEET gets a new row: 1. .. numbers (0 at first)");
        for (int lane = 0; lane < 3; lane++) {
            HourDoors x = new HourDoors();
            x.sheet(2, lane, 60);
            for (int i = 0; i < 60; i++) due("0 at first", x.cell(2, i, lane), 0);
            for (int i = 0; i < 60; i++) x.put(2, i, i + 1);
            due("shorter", x.sheet(2, lane, 10), 1);
            due("another one's lane", x.cell(2, 0, (lane + 1) % 3), LOST);
            for (int i = 0; i < 10; i++) due("0 again", x.cell(2, i, lane), 0);
            due("longer, of another lane", x.sheet(2, (lane + 1) % 3, 60), 1);
            for (int i = 0; i < 60; i++) due("0 again", x.cell(2, i, (lane + 1) % 3), 0);
            x.put(2, 59, 7);
            x.lose(2);
            x.sheet(2, (lane + 1) % 3, 60);
            due("0 again behind nothing", x.cell(2, 59, (lane + 1) % 3), 0);
        }
    }

    private static void sheetUnknown() {
        on(19, "A SHEET gets a new row .. UNKNOWN");
        for (int k : beside(0, 3)) refusesByName("sheet " + k, UNKNOWN, x -> x.sheet(k, 0, 3));
    }

    private static void sheetOutside() {
        on(19, "OUTSIDE: lane, n above 60");
        for (int k = 0; k < 4; k++) {
            int sheet = k;
            for (int lane : beside(0, 2)) refusesByName("lane " + lane, OUTSIDE, x -> x.sheet(sheet, lane, 3));
            for (int n : new int[] {61, 62, HIGH}) refusesByName("n " + n, OUTSIDE, x -> x.sheet(sheet, 0, n));
        }
        due("60", furnished().sheet(0, 0, 60), 1);
    }

    private static void sheetSize() {
        on(19, "SIZE .. 4 SIZE (a length below 0)");
        for (int k = 0; k < 4; k++) {
            int sheet = k;
            for (int n : new int[] {-1, -2, LOW}) faults("n " + n, SIZE, x -> x.sheet(sheet, 2, n));
        }
        due("0", furnished().sheet(0, 0, 0), 1);
    }

    private static void sheetOrder() {
        on(19, "UNKNOWN; OUTSIDE: lane, n above 60; SIZE.");
        refusesByName("sheet, lane, n", UNKNOWN, x -> x.sheet(4, 3, 61));
        refusesByName("sheet, n", UNKNOWN, x -> x.sheet(-1, 0, 61));
        refusesByName("sheet, size", UNKNOWN, x -> x.sheet(4, 0, -1));
        refusesByName("lane, size", OUTSIDE, x -> x.sheet(0, 3, -1));
        refusesByName("lane, n", OUTSIDE, x -> x.sheet(0, -1, 61));
    }

    // ---- promise 20

    private static void loseWhatThereIs() {
        on(20, "A SHEET has nothing: 1; 0: it had nothing.");
        for (int k = 0; k < 4; k++) {
            HourDoors x = new HourDoors();
            due("nothing", x.lose(k), 0);
            x.sheet(k, 1, 60);
            x.sheet((k + 1) % 4, 1, 2);
            due("a row", x.lose(k), 1);
            due("nothing again", x.lose(k), 0);
            due("it has nothing", x.put(k, 0, 0), NULL);
            due("the next one is as it was", x.put((k + 1) % 4, 1, 0), 1);
            x.sheet(k, 2, 0);
            due("a row of none", x.lose(k), 1);
        }
    }

    private static void loseUnknown() {
        on(20, "A SHEET has nothing .. UNKNOWN.");
        for (int k : beside(0, 3)) refuses("sheet " + k, UNKNOWN, x -> x.lose(k));
    }

    // ---- promise 21

    private static void putCutToItsLane() {
        on(21, "what comes to a cell of it is cut to its LANE");
        int[] values = {127, 128, 129, 255, 256, 257, -127, -128, -129, -256, 32767, 32768, 65535, 65536, 65537,
            -32767, -32768, -32769, -65536, HIGH, LOW, HIGH - 1, LOW + 1, 0x12345678, 0x80, 0x8000};
        for (int lane = 0; lane < 3; lane++) {
            HourDoors x = new HourDoors();
            x.sheet(0, lane, 3);
            for (int v : values) {
                int bits = lane == 0 ? 24 : lane == 1 ? 16 : 0;
                due(v + " to lane " + lane, x.put(0, 1, v), 1);
                due(v + " in lane " + lane, x.cell(0, 1, lane), v << bits >> bits);
            }
            for (int end : ends(lane)) {
                x.put(0, 1, end);
                due("the lane's end", x.cell(0, 1, lane), end);
            }
            x.put(0, 1, ends(lane)[1] + 1);
            due("beyond the greatest comes the least", x.cell(0, 1, lane), ends(lane)[0]);
            x.put(0, 1, ends(lane)[0] - 1);
            due("beyond the least comes the greatest", x.cell(0, 1, lane), ends(lane)[1]);
        }
    }

    private static void putFirstAndLast() {
        on(21, "Cell i of a SHEET becomes v: 1.");
        for (int lane = 0; lane < 3; lane++) {
            HourDoors x = new HourDoors();
            x.sheet(3, lane, 60);
            due("the first", x.put(3, 0, 5), 1);
            due("the last", x.put(3, 59, -6), 1);
            for (int i = 0; i < 60; i++) due("cell " + i, x.cell(3, i, lane), i == 0 ? 5 : i == 59 ? -6 : 0);
        }
    }

    private static void putUnknown() {
        on(21, "Cell i of a SHEET .. UNKNOWN");
        for (int k : beside(0, 3)) refusesByName("sheet " + k, UNKNOWN, x -> x.put(k, 0, 1));
    }

    private static void putNull() {
        on(21, "NULL .. 1 NULL (there is nothing)");
        faults("nothing", NULL, x -> x.put(3, 0, 1));
        faults("nothing any more", NULL, x -> {
            x.sheet(3, 0, 5);
            x.lose(3);
            return x.put(3, 0, 1);
        });
    }

    private static void putIndex() {
        on(21, "INDEX of a cell that is put");
        for (int i : beside(0, 16)) faults("cell " + i + " of 17", INDEX, x -> x.put(0, i, 1));
        for (int i : beside(0, 4)) faults("cell " + i + " of 5", INDEX, x -> x.put(1, i, 1));
        for (int i : beside(0, 2)) faults("cell " + i + " of 3", INDEX, x -> x.put(2, i, 1));
        HourDoors x = new HourDoors();
        x.sheet(0, 0, 0);
        due("cell 0 of none", x.put(0, 0, 1), INDEX);
        x.sheet(0, 0, 60);
        due("cell 60 of 60", x.put(0, 60, 1), INDEX);
    }

    private static void putOrder() {
        on(21, "UNKNOWN; NULL; INDEX.");
        refusesByName("sheet, index", UNKNOWN, x -> x.put(4, -1, 1));
        faults("nothing, index", NULL, x -> x.put(3, -1, 1));
        faults("nothing, index", NULL, x -> x.put(3, 60, 1));
    }

    // ---- promise 22

    private static void cellOfALane() {
        on(22, "Cell i of what a SHEET has, taken as a row of a LANE.");
        HourDoors x = new HourDoors();
        for (int lane = 0; lane < 3; lane++) {
            row(x, lane, lane, ends(lane));
            due("the least", x.cell(lane, 0, lane), ends(lane)[0]);
            due("the greatest", x.cell(lane, 1, lane), ends(lane)[1]);
            due("then fault()", x.fault(), 0);
        }
    }

    private static void cellRefused() {
        on(22, "LOST: UNKNOWN, OUTSIDE: lane");
        for (int k : beside(0, 3)) refusesByName("sheet " + k, LOST, x -> x.cell(k, 0, 0));
        for (int lane : beside(0, 2)) {
            refusesByName("lane " + lane, LOST, x -> x.cell(0, 0, lane));
            refusesByName("lane " + lane + ", nothing", LOST, x -> x.cell(3, 0, lane));
        }
    }

    private static void cellCast() {
        on(22, "FAULTS CAST (nothing is no CAST)");
        for (int k = 0; k < 3; k++) {
            for (int lane = 0; lane < 3; lane++) {
                int sheet = k;
                int as = lane;
                if (k != lane) losesBy("sheet " + k + " as " + lane, CAST, x -> x.cell(sheet, 0, as));
                losesBy("nothing as " + lane, NULL, x -> x.cell(3, 0, as));
            }
        }
    }

    private static void cellNull() {
        on(22, "FAULTS .. NULL");
        losesBy("nothing", NULL, x -> x.cell(3, 0, 0));
        losesBy("nothing any more", NULL, x -> {
            x.sheet(3, 0, 5);
            x.lose(3);
            return x.cell(3, 0, 0);
        });
    }

    private static void cellIndex() {
        on(22, "FAULTS .. INDEX");
        for (int i : beside(0, 16)) losesBy("cell " + i + " of 17", INDEX, x -> x.cell(0, i, 0));
        for (int i : beside(0, 4)) losesBy("cell " + i + " of 5", INDEX, x -> x.cell(1, i, 1));
        for (int i : beside(0, 2)) losesBy("cell " + i + " of 3", INDEX, x -> x.cell(2, i, 2));
        HourDoors x = new HourDoors();
        x.sheet(0, 0, 0);
        due("cell 0 of none", x.cell(0, 0, 0), LOST);
        due("then fault()", x.fault(), 3);
    }

    private static void cellOrder() {
        on(22, "LOST: UNKNOWN, OUTSIDE: lane; FAULTS CAST (nothing is no CAST), NULL, INDEX.");
        refusesByName("sheet, lane, index", LOST, x -> x.cell(4, -1, 3));
        refusesByName("lane, nothing, index", LOST, x -> x.cell(3, -1, 3));
        refusesByName("lane, cast, index", LOST, x -> x.cell(0, -1, 3));
        losesBy("cast, index", CAST, x -> x.cell(0, -1, 1));
        losesBy("nothing, index", NULL, x -> x.cell(3, -1, 1));
    }

    // ---- promise 23

    private static void holds(HourDoors x, int k, int lane, int... cells) {
        for (int i = 0; i < cells.length; i++) due("cell " + i, x.cell(k, i, lane), cells[i]);
        due("no more", x.cell(k, cells.length, lane), LOST);
    }

    private static void copyAsTheyWere() {
        on(23, "n cells of a SHEET from i on go to another one (perhaps the same) from j on, as they were: n.");
        for (int lane = 0; lane < 3; lane++) {
            HourDoors x = new HourDoors();
            row(x, 0, lane, 1, 2, 3, 4, 5);
            row(x, 1, lane, 6, 7, 8);
            due("all of the other", x.copy(0, 2, 1, 0, 3), 3);
            holds(x, 1, lane, 3, 4, 5);
            holds(x, 0, lane, 1, 2, 3, 4, 5);
            due("all of the first", x.copy(1, 0, 0, 2, 3), 3);
            due("one up", x.copy(0, 0, 0, 1, 4), 4);
            holds(x, 0, lane, 1, 1, 2, 3, 4);
            due("one down", x.copy(0, 1, 0, 0, 4), 4);
            holds(x, 0, lane, 1, 2, 3, 4, 4);
            due("to itself", x.copy(0, 0, 0, 0, 5), 5);
            holds(x, 0, lane, 1, 2, 3, 4, 4);
            due("one", x.copy(0, 4, 1, 2, 1), 1);
            holds(x, 1, lane, 3, 4, 4);
            row(x, 2, lane, ends(lane));
            due("the lane's ends", x.copy(2, 0, 1, 1, 2), 2);
            holds(x, 1, lane, 3, ends(lane)[0], ends(lane)[1]);
        }
        HourDoors x = new HourDoors();
        x.sheet(0, 1, 60);
        x.sheet(1, 1, 60);
        x.put(0, 59, 4);
        due("sixty", x.copy(0, 0, 1, 0, 60), 60);
        due("the last of sixty", x.cell(1, 59, 1), 4);
    }

    private static void copyOfNone() {
        on(23, "n cells .. n: none");
        HourDoors x = new HourDoors();
        row(x, 0, 1, 1, 2, 3);
        row(x, 1, 1, 4, 5);
        x.sheet(2, 1, 0);
        for (int i = 0; i <= 3; i++) {
            for (int j = 0; j <= 2; j++) due("none from " + i + " to " + j, x.copy(0, i, 1, j, 0), 0);
        }
        due("of a row of none", x.copy(2, 0, 0, 3, 0), 0);
        due("to a row of none", x.copy(0, 3, 2, 0, 0), 0);
        due("no fault", x.fault(), 0);
        holds(x, 0, 1, 1, 2, 3);
        holds(x, 1, 1, 4, 5);
    }

    private static void copyUnknown() {
        on(23, "n cells of a SHEET .. UNKNOWN");
        for (int k : beside(0, 3)) {
            refusesByName("sheet " + k, UNKNOWN, x -> x.copy(k, 0, 0, 0, 1));
            refusesByName("other " + k, UNKNOWN, x -> x.copy(0, 0, k, 0, 1));
            refusesByName("both " + k, UNKNOWN, x -> x.copy(k, 0, k, 0, 1));
        }
    }

    private static void copyNull() {
        on(23, "FAULTS NULL (the first, the other)");
        for (int k = 0; k < 4; k++) {
            int sheet = k;
            faults("nothing to " + k, NULL, x -> x.copy(3, 0, sheet, 0, 0));
            faults(k + " to nothing", NULL, x -> x.copy(sheet, 0, 3, 0, 0));
        }
    }

    private static void copyCast() {
        on(23, "CAST (unlike LANES)");
        for (int k = 0; k < 3; k++) {
            for (int other = 0; other < 3; other++) {
                int from = k;
                int to = other;
                if (k == other) due("like lanes", furnished().copy(k, 0, other, 0, 1), 1);
                if (k != other) faults(k + " to " + other, CAST, x -> x.copy(from, 0, to, 0, 1));
                if (k != other) faults(k + " to " + other + ", none", CAST, x -> x.copy(from, 0, to, 0, 0));
            }
        }
    }

    private static void copyIndex() {
        on(23, "INDEX: i, j, n below 0 or beyond.");
        for (int i = -1; i <= 5; i++) {
            for (int j = -1; j <= 4; j++) {
                for (int n = -1; n <= 5; n++) {
                    HourDoors twoRows = new HourDoors();
                    twoRows.sheet(0, 2, 4);
                    twoRows.sheet(1, 2, 3);
                    boolean there = i >= 0 && j >= 0 && n >= 0 && i + n <= 4 && j + n <= 3;
                    String call = n + " from " + i + " of 4 to " + j + " of 3";
                    due(call, twoRows.copy(0, i, 1, j, n), there ? n : INDEX);
                    due(call + ", then fault()", twoRows.fault(), there ? 0 : 3);
                }
            }
        }
        for (int wild : new int[] {LOW, LOW + 1, -60, HIGH - 1, HIGH}) {
            faults("i " + wild, INDEX, x -> x.copy(1, wild, 1, 0, 1));
            faults("i " + wild + ", none", INDEX, x -> x.copy(1, wild, 1, 0, 0));
            faults("j " + wild, INDEX, x -> x.copy(1, 0, 1, wild, 1));
            faults("j " + wild + ", none", INDEX, x -> x.copy(1, 0, 1, wild, 0));
            faults("n " + wild, INDEX, x -> x.copy(1, 1, 1, 1, wild));
            faults("all " + wild, INDEX, x -> x.copy(1, wild, 1, wild, wild));
        }
    }

    private static void copyOrder() {
        on(23, "UNKNOWN; FAULTS NULL (the first, the other), CAST (unlike LANES), INDEX");
        refusesByName("other, nothing, index", UNKNOWN, x -> x.copy(3, -1, 4, -1, -1));
        refusesByName("sheet, nothing, index", UNKNOWN, x -> x.copy(4, -1, 3, -1, -1));
        faults("the first has nothing, index", NULL, x -> x.copy(3, -1, 0, -1, -1));
        faults("the other has nothing, index", NULL, x -> x.copy(1, -1, 3, -1, -1));
        faults("cast, index", CAST, x -> x.copy(0, -1, 1, -1, -1));
    }

    // ---- promises 24 and 25

    private static void tellings() {
        on(24, "PLAIN (1): STEP. LATE (2): what PLAIN's gives, and 100. CUPBOARD (3): what LATE's gives,"
            + " and what PLAIN's gives (LATE's left out).");
        for (int step = 0; step <= 5; step += 5) {
            HourDoors x = houseOf("d2;p01" + step + ";l01" + step + ";c01" + step);
            due("plain", x.tell(0), step);
            due("trace", x.trace(), traceOf(1));
            due("late", x.tell(1), step + 100);
            due("trace", x.trace(), traceOf(1, 2, 1));
            due("cupboard", x.tell(2), step + 100 + step);
            due("trace", x.trace(), traceOf(1, 2, 1, 3, 2, 1, 1));
        }
    }

    private static void tellUnknown() {
        on(24, "TELLING of a DOOR. UNKNOWN.");
        for (int d : beside(0, 2)) refuses("door " + d, UNKNOWN, x -> x.tell(d));
        due("the last door", furnished().tell(2), 100);
    }

    private static void knocks() {
        on(25, "KNOCKED at by a lent body (4): its number; CUPBOARDS have their own (5): 60.");
        HourDoors x = houseOf("d2;p010;l010;c010;p010;c010;p010;p010;l010");
        int[] gives = {0, 1, 60, 3, 60, 5, 6, 7};
        int trace = 0;
        for (int d = 0; d < 8; d++) {
            due("door " + d, x.knock(d), gives[d]);
            trace = 31 * trace + (gives[d] == 60 ? 5 : 4);
            due("trace", x.trace(), trace);
        }
    }

    private static void knockUnknown() {
        on(25, "How it is KNOCKED at. UNKNOWN.");
        for (int d : beside(0, 2)) refuses("door " + d, UNKNOWN, x -> x.knock(d));
        due("the last door", furnished().knock(2), 60);
    }

    // ---- promise 26

    private static void asTaken() {
        on(26, "A DOOR, taken as one of a kind: 1.");
        for (int d = 0; d < 3; d++) {
            for (int kind = 0; kind <= d; kind++) {
                HourDoors x = furnished();
                x.put(3, 0, 0);
                due(d + " as " + kind, x.as(d, kind), 1);
                due("then fault()", x.fault(), 0);
                due("it is what it was", x.ofDoor(d, 0), d);
            }
        }
    }

    private static void asUnknown() {
        on(26, "A DOOR, taken as one of a kind .. UNKNOWN");
        for (int d : beside(0, 2)) {
            refusesByName("door " + d, UNKNOWN, x -> x.as(d, 0));
            refusesByName("door " + d + ", kind too", UNKNOWN, x -> x.as(d, 3));
        }
    }

    private static void asOutside() {
        on(26, "A DOOR, taken as one of a kind .. OUTSIDE");
        for (int d = 0; d < 3; d++) {
            int door = d;
            for (int kind : beside(0, 2)) refusesByName(d + " as " + kind, OUTSIDE, x -> x.as(door, kind));
        }
    }

    private static void asCast() {
        on(26, "CAST: it is none.");
        faults("a plain as a late one", CAST, x -> x.as(0, 1));
        faults("a plain one as a cupboard", CAST, x -> x.as(0, 2));
        faults("a late one as a cupboard", CAST, x -> x.as(1, 2));
    }

    // ---- promise 27

    private static void traceAtFirst() {
        on(27, "TRACE (an int that wraps, 0 at first");
        due("a new object", new HourDoors().trace(), 0);
        due("a new house", houseOf("d2;p010;c010").trace(), 0);
    }

    private static void traceWraps() {
        on(27, "becomes 31 times it and the number) as they begin");
        HourDoors x = houseOf("d2;c010");
        long trace = 0;
        boolean wrapped = false;
        for (int k = 0; k < 200; k++) {
            x.knock(0);
            long next = 31 * trace + 5;
            wrapped |= next != (int) next;
            trace = (int) next;
            due("behind " + (k + 1) + " knocks", x.trace(), trace);
        }
        due("it went beyond an int: 1", wrapped ? 1 : 0, 1);
    }

    // ---- promise 28

    private static void faultAtFirst() {
        on(28, "(0 ahead of any)");
        due("a new object", new HourDoors().fault(), 0);
        HourDoors x = new HourDoors();
        x.many(3);
        x.lose(4);
        x.odds(0, 0, 0, 0);
        due("refusals of calls that name none", x.fault(), 0);
    }

    private static void faultOfTheLatest() {
        on(28, "The FAULT of the latest call that names one");
        HourDoors x = furnished();
        due("null", x.house(3, 0, 0, 0), NULL);
        due("fault", x.fault(), 1);
        due("fault, asked again", x.fault(), 1);
        due("cast", x.walk(0, 0, 1, 0, 0, 0, 0), CAST);
        due("fault", x.fault(), 2);
        due("index", x.put(0, 17, 0), INDEX);
        due("fault", x.fault(), 3);
        due("size", x.sheet(0, 0, -1), SIZE);
        due("fault", x.fault(), 4);
        due("lost", x.cell(3, 0, 0), LOST);
        due("fault", x.fault(), 1);
        due("cast", x.as(0, 1), CAST);
        due("fault", x.fault(), 2);
        due("index", x.copy(0, 0, 0, 0, 18), INDEX);
        due("fault", x.fault(), 3);
    }

    private static final Call[] FAULTLESS = {
        x -> x.house(0, 0, 0, 17), x -> x.house(0, 0, 0, 0), x -> x.walk(0, 0, 1, 1, 0, 1, 0),
        x -> x.walk(1, 0, 1, 1, 1, 1, 0), x -> x.sheet(3, 0, 0), x -> x.put(0, 0, 0), x -> x.cell(0, 0, 0),
        x -> x.copy(0, 0, 0, 0, 0), x -> x.as(2, 2)
    };

    private static void faultOfNone() {
        on(28, "0: it came to none");
        for (int c = 0; c < FAULTLESS.length; c++) {
            HourDoors x = furnished();
            x.sheet(0, 0, -1);
            FAULTLESS[c].of(x);
            due("behind call " + c, x.fault(), 0);
        }
    }

    private static final Call[] REFUSED = {
        x -> x.house(4, 0, 0, 0), x -> x.house(0, 3, 0, 0), x -> x.walk(4, 0, 1, 1, 0, 1, 0),
        x -> x.walk(0, 12, 1, 1, 0, 1, 0), x -> x.walk(0, 0, 1, 1, 3, 1, 0), x -> x.sheet(4, 0, 0),
        x -> x.sheet(0, 0, 61), x -> x.put(4, 0, 0), x -> x.cell(4, 0, 0), x -> x.cell(0, 0, 3),
        x -> x.copy(4, 0, 0, 0, 0), x -> x.as(3, 0), x -> x.as(0, 3)
    };

    private static void faultOfTheRefused() {
        on(28, "or was refused");
        for (int c = 0; c < REFUSED.length; c++) {
            HourDoors x = furnished();
            x.sheet(0, 0, -1);
            REFUSED[c].of(x);
            due("behind call " + c, x.fault(), 0);
        }
    }

    private static final Call[] NAME_NONE = {
        x -> x.ofDoor(0, 0), x -> x.leads(0, 0), x -> x.step(0, 0), x -> x.turn(0, 0), x -> x.soonest(0, 1, 0, 0),
        x -> x.errands(0, 3, 0), x -> x.meet(0, 1, 0), x -> x.cut(0, 1, 0), x -> x.reach(0), x -> x.reading(0, 0, 0),
        x -> x.back(1), x -> x.steps(0), x -> x.targets(0), x -> x.kinds(0), x -> x.odds(0, 1, 2, 0), x -> x.lose(0),
        x -> x.lose(3), x -> x.tell(2), x -> x.knock(2), x -> x.trace(), x -> x.fault(), x -> x.many(0)
    };

    private static void faultIsLeftByOthers() {
        on(28, "the latest call that names one: others leave it");
        for (int c = 0; c < NAME_NONE.length; c++) {
            HourDoors x = furnished();
            x.sheet(0, 0, -1);
            NAME_NONE[c].of(x);
            due("behind call " + c, x.fault(), 4);
        }
    }

    // ---- promise 29

    private static void manyWithoutAHouse() {
        on(29, "0 DOORS, 1 ROOMS, 2 READINGS (0 all without a HOUSE)");
        HourDoors x = new HourDoors();
        for (int what = 0; what < 3; what++) due("what " + what, x.many(what), 0);
        due("a text that is not taken", take(x, "d2;p016"), -106);
        for (int what = 0; what < 3; what++) due("what " + what, x.many(what), 0);
        due("the most that there are", take(x, "d6;p010;p010;p010;p010;p010;p010;p010;p010"), 8);
        for (int k = 0; k < 8; k++) x.reading(0, 0, 0);
        due("doors", x.many(0), 8);
        due("rooms", x.many(1), 6);
        due("readings", x.many(2), 8);
    }

    private static void manyOutside() {
        on(29, "How many: .. OUTSIDE.");
        for (int what : beside(0, 2)) {
            refuses("what " + what, OUTSIDE, x -> x.many(what));
            refuses("what " + what + " without a house", OUTSIDE, HourDoors::new, x -> x.many(what));
        }
    }

    private static void fiveHundredAndTwelveCalls() {
        on(29, "An object is used for at most 512 calls after it has been made");
        HourDoors x = new HourDoors();
        for (int call = 1; call <= 255; call++) x.sheet(call % 4, call % 3, 60);
        for (int call = 256; call <= 511; call++) x.put(3, 59, call);
        due("call 512", x.cell(3, 59, 0), (byte) 511);
        HourDoors y = houseOf("d2;p010;c100");
        // 14 calls told the house
        for (int call = 15; call <= 511; call++) y.knock(0);
        due("call 512", y.knock(1), 60);
    }
}
