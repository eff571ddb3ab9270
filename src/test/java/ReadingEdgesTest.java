/** The edges of promises 13 to 18, and of the terms' part 4: each sentence has a test of its own. */
public final class ReadingEdgesTest extends EdgeKit {
    public static void main(String[] args) {
        eightReadings();
        numberedByHowMany();
        readingsThatAreNotSo();
        readingShut();
        readingUnknown();
        readingOutside();
        readingFull();
        readingOrder();
        backNoneAndAll();
        backTakesTheLast();
        backOutside();
        stepsAreZeroToFive();
        stepsByAllReadings();
        stepsUnknown();
        targetsAreRooms();
        targetsByAllReadings();
        targetsUnknown();
        kindsAreThree();
        kindsByShutDoors();
        kindsUnknown();
        oddsOfTwelveHours();
        oddsInLeastTerms();
        oddsTwentyFour();
        oddsUnknown();
        oddsOutside();
        end();
    }

    /** As furnished(), with as many readings as there can be. */
    private static HourDoors full() {
        HourDoors x = furnished();
        for (int k = 2; k < 8; k++) x.reading(0, k, (1 + k) % 4);
        return x;
    }

    // ---- promise 13

    private static void eightReadings() {
        on(13, "READINGS, 8 at most");
        HourDoors x = houseOf("d2;p010");
        for (int k = 0; k < 8; k++) {
            due("how many ahead of " + k, x.many(2), k);
            due("reading " + k, x.reading(0, k, 1), k);
        }
        due("a ninth", x.reading(0, 8, 1), FULL);
        due("eight", x.many(2), 8);
        due("the eighth counts", x.targets(0), 2);
        x.back(1);
        x.reading(0, 7, 0);
        due("another eighth counts", x.targets(0), 0);
    }

    private static void numberedByHowMany() {
        on(13, "numbered by how many there are .. A READING: its number");
        HourDoors x = houseOf("d2;p010");
        due("the first", x.reading(0, 0, 1), 0);
        due("the same again", x.reading(0, 0, 1), 1);
        due("two", x.back(0), 2);
        due("taken back", x.back(2), 0);
        due("the first again", x.reading(0, 0, 1), 0);
        for (int k = 1; k < 8; k++) x.reading(0, 0, 1);
        due("one taken back", x.back(1), 7);
        due("the eighth again", x.reading(0, 0, 1), 7);
    }

    private static void readingsThatAreNotSo() {
        on(13, "at an HOUR a DOOR led to a ROOM, or was shut");
        HourDoors x = houseOf("d2;p010;c010");
        due("what is not so is taken, too", x.reading(0, 0, 0), 0);
        due("a plain door that was shut", x.reading(0, 0, NONE), 1);
        due("a cupboard that led, at an hour at which it is shut", x.reading(1, 1, 1), 2);
        due("the door is as it was", x.leads(0, 0), 1);
        due("the cupboard is as it was", x.leads(1, 1), NONE);
        for (int hour = 0; hour < 12; hour += 11) due("hour " + hour, x.reading(1, hour, 1), hour == 0 ? 3 : 4);
    }

    private static void readingShut() {
        on(13, "(room NONE: it was shut)");
        HourDoors x = houseOf("d3;c020");
        due("at 1", x.reading(0, 1, NONE), 0);
        due("a cupboard alone", x.kinds(0), 4);
        due("by any step", x.steps(0), 63);
        due("by any room", x.targets(0), 7);
        x.back(1);
        x.reading(0, 0, NONE);
        due("no kind is shut at 0", x.kinds(0), 0);
        due("by no step", x.steps(0), 0);
        due("by no room", x.targets(0), 0);
    }

    private static void readingUnknown() {
        on(13, "UNKNOWN: DOOR, ROOM");
        for (int d : beside(0, 2)) {
            refuses("door " + d, UNKNOWN, x -> x.reading(d, 0, 0));
            refuses("door " + d + ", shut", UNKNOWN, x -> x.reading(d, 0, NONE));
        }
        for (int room : beside(0, 3)) refuses("room " + room, UNKNOWN, x -> x.reading(0, 0, room));
        for (int room : beside(NONE, NONE)) refuses("room " + room, UNKNOWN, x -> x.reading(0, 0, room));
        due("the last door, the last room", furnished().reading(2, 0, 3), 2);
    }

    private static void readingOutside() {
        on(13, "OUTSIDE: hour (0 .. 11)");
        for (int hour : beside(0, 11)) {
            refuses("hour " + hour, OUTSIDE, x -> x.reading(0, hour, 0));
            refuses("hour " + hour + ", shut", OUTSIDE, x -> x.reading(0, hour, NONE));
        }
        due("hour 0", furnished().reading(0, 0, 0), 2);
        due("hour 11", furnished().reading(0, 11, 0), 2);
    }

    private static void readingFull() {
        on(13, "FULL");
        refuses("a ninth", FULL, ReadingEdgesTest::full, x -> x.reading(0, 0, 1));
        refuses("a ninth, shut", FULL, ReadingEdgesTest::full, x -> x.reading(0, 0, NONE));
    }

    private static void readingOrder() {
        on(13, "UNKNOWN: DOOR, ROOM; OUTSIDE: hour (0 .. 11); FULL.");
        refuses("all", UNKNOWN, ReadingEdgesTest::full, x -> x.reading(3, 12, 4));
        refuses("door, hour, full", UNKNOWN, ReadingEdgesTest::full, x -> x.reading(3, 12, 0));
        refuses("room, hour, full", UNKNOWN, ReadingEdgesTest::full, x -> x.reading(0, 12, 4));
        refuses("door, full", UNKNOWN, ReadingEdgesTest::full, x -> x.reading(3, 0, 0));
        refuses("room, full", UNKNOWN, ReadingEdgesTest::full, x -> x.reading(0, 0, 4));
        refuses("hour, full", OUTSIDE, ReadingEdgesTest::full, x -> x.reading(0, 12, 0));
        refuses("door, hour", UNKNOWN, x -> x.reading(3, 12, 0));
        refuses("room, hour", UNKNOWN, x -> x.reading(0, -1, 4));
    }

    // ---- promise 14

    private static void backNoneAndAll() {
        on(14, "The last k READINGS (0 .. as many as there are) are taken back: how many are left.");
        due("0 of none", new HourDoors().back(0), 0);
        due("0 of a house without readings", houseOf("d2;p010").back(0), 0);
        due("0 of two", furnished().back(0), 2);
        due("all of two", furnished().back(2), 0);
        due("0 of eight", full().back(0), 8);
        due("1 of eight", full().back(1), 7);
        due("all of eight", full().back(8), 0);
        HourDoors x = furnished();
        x.back(0);
        due("none is taken back", told(x).equals(told(furnished())) ? 1 : 0, 1);
    }

    private static void backTakesTheLast() {
        on(14, "The last k READINGS");
        HourDoors x = houseOf("d6;p012");
        x.reading(0, 0, 1);
        x.reading(0, 0, 2);
        x.reading(0, 0, 3);
        due("no room does", x.targets(0), 0);
        due("two taken back", x.back(2), 1);
        due("the first is left", x.targets(0), 2);
        due("it too", x.back(1), 0);
        due("any room does", x.targets(0), 63);
    }

    private static void backOutside() {
        on(14, "OUTSIDE.");
        for (int k : beside(0, 2)) refuses("k " + k + " of 2", OUTSIDE, x -> x.back(k));
        for (int k : beside(0, 8)) refuses("k " + k + " of 8", OUTSIDE, ReadingEdgesTest::full, x -> x.back(k));
        for (int k : beside(0, 0)) refuses("k " + k + " of none", OUTSIDE, HourDoors::new, x -> x.back(k));
    }

    // ---- promise 15

    private static void stepsAreZeroToFive() {
        on(15, "STEPS of a DOOR: 0 .. 5 .. as sets");
        due("no readings", houseOf("d2;p010").steps(0), 63);
        due("no readings, six rooms", houseOf("d6;c015").steps(0), 63);
        // at 1 a plain door of 6 rooms leads to its step
        for (int step = 0; step <= 5; step++) {
            HourDoors x = houseOf("d6;p003");
            x.reading(0, 1, step);
            due("step " + step, x.steps(0), 1 << step);
            due("its step is as it was", x.ofDoor(0, 3), 3);
        }
        HourDoors x = houseOf("d2;p003");
        x.reading(0, 1, 1);
        due("each second one", x.steps(0), 2 | 8 | 32);
        x.reading(0, 0, 1);
        due("none: it leads to 0 at 0", x.steps(0), 0);
    }

    private static void stepsByAllReadings() {
        on(15, "in place of what it is alone, by which all READINGS are so: STEPS");
        HourDoors x = houseOf("d6;p001;p002");
        x.reading(0, 1, 4);
        due("the door that was read", x.steps(0), 16);
        due("the other: that one's reading is not so", x.steps(1), 0);
        x.step(0, 4);
        due("it is so now", x.steps(1), 63);
        x.reading(1, 1, 2);
        due("both are so", x.steps(0), 16);
        due("both are so", x.steps(1), 4);
        x.turn(0, 1);
        due("not with TO as it is now", x.steps(0), 8);
    }

    private static void stepsUnknown() {
        on(15, "STEPS, as a set. UNKNOWN.");
        for (int d : beside(0, 2)) refuses("door " + d, UNKNOWN, x -> x.steps(d));
        due("the last door", furnished().steps(2), 63);
    }

    // ---- promise 16

    private static void targetsAreRooms() {
        on(16, "TARGETS of a DOOR: ROOMS (TO) .. as sets");
        for (int rooms = 2; rooms <= 6; rooms++) {
            due("all of " + rooms, houseOf("d" + rooms + ";p010").targets(0), (1 << rooms) - 1);
            for (int room = 0; room < rooms; room++) {
                HourDoors x = houseOf("d" + rooms + ";p010");
                x.reading(0, 0, room);
                due("room " + room, x.targets(0), 1 << room);
                due("TO is as it was", x.ofDoor(0, 2), 1);
            }
        }
        HourDoors x = houseOf("d6;p000");
        x.reading(0, 0, 1);
        x.reading(0, 0, 2);
        due("none", x.targets(0), 0);
    }

    private static void targetsByAllReadings() {
        on(16, "in place of what it is alone, by which all READINGS are so: TARGETS");
        HourDoors x = houseOf("d5;p001;l002");
        x.reading(0, 1, 4);
        due("the door that was read", x.targets(0), 8);
        due("the other: that one's reading is not so", x.targets(1), 0);
        x.turn(0, 3);
        due("it is so now", x.targets(1), 31);
        x.reading(1, 0, 2);
        due("a late one at 0, as at 11", x.targets(1), 1);
        x.step(0, 2);
        due("not with STEP as it is now", x.targets(0), 4);
    }

    private static void targetsUnknown() {
        on(16, "TARGETS, as a set. UNKNOWN.");
        for (int d : beside(0, 2)) refuses("door " + d, UNKNOWN, x -> x.targets(d));
        due("the last door", furnished().targets(2), 15);
    }

    // ---- promise 17

    private static void kindsAreThree() {
        on(17, "KINDS of a DOOR: 0 .. 2; as sets");
        for (char letter : new char[] {'p', 'l', 'c'}) {
            due("no readings", houseOf("d5;" + letter + "001").kinds(0), 7);
            HourDoors plain = houseOf("d5;" + letter + "001");
            plain.reading(0, 0, 0);
            due("0 at 0: plain alone", plain.kinds(0), 1);
            HourDoors late = houseOf("d5;" + letter + "001");
            late.reading(0, 1, 0);
            due("0 at 1: late alone", late.kinds(0), 2);
            HourDoors both = houseOf("d5;" + letter + "001");
            both.reading(0, 0, 1);
            due("1 at 0: late or a cupboard", both.kinds(0), 6);
            both.reading(0, 1, NONE);
            due("shut at 1: a cupboard alone", both.kinds(0), 4);
            both.reading(0, 3, NONE);
            due("shut at 3: none", both.kinds(0), 0);
            due("its kind is as it was", both.ofDoor(0, 0), "plc".indexOf(letter));
        }
    }

    private static void kindsByShutDoors() {
        on(17, "in place of what it is alone, by which all READINGS are so: KINDS");
        HourDoors x = houseOf("d2;p010;c010");
        x.reading(1, 1, NONE);
        due("the cupboard", x.kinds(1), 4);
        due("the plain one: any", x.kinds(0), 7);
        x.reading(0, 1, NONE);
        due("the plain one as a cupboard", x.kinds(0), 4);
        due("the other: the plain one's reading is not so", x.kinds(1), 0);
        x.back(1);
        x.reading(0, 0, 1);
        due("by all", x.kinds(0), 7);
        x.step(0, 1);
        due("plain alone, with STEP as it is now", x.kinds(0), 1);
    }

    private static void kindsUnknown() {
        on(17, "KINDS, as a set. UNKNOWN.");
        for (int d : beside(0, 2)) refuses("door " + d, UNKNOWN, x -> x.kinds(d));
        due("the last door", furnished().kinds(2), 4);
    }

    // ---- promise 18

    private static void share(HourDoors x, int from, int to, int n, int upper, int lower) {
        String call = "odds(" + from + ", " + to + ", " + n + ", ";
        due(call + "0)", x.odds(from, to, n, 0), upper);
        due(call + "1)", x.odds(from, to, n, 1), lower);
    }

    private static void oddsOfTwelveHours() {
        on(18, "if it is each of the twelve HOURS, all alike: the share by which SOONEST is n at most");
        // from 0 to 3 at 9 alone: at hour 9 it takes 1 hour, at 10 it takes 12; to 4 never
        HourDoors x = houseOf("d5;c001");
        due("at 9", x.soonest(0, 3, 9, -1), 1);
        due("at 10", x.soonest(0, 3, 10, -1), 12);
        share(x, 0, 3, 11, 11, 12);
        share(x, 0, 3, 12, 1, 1);
        share(x, 0, 3, 24, 1, 1);
        for (int n = 0; n <= 24; n++) {
            share(x, 0, 4, n, 0, 1);
            share(x, 4, 4, n, 1, 1);
        }
    }

    private static void oddsInLeastTerms() {
        on(18, "Shares are told as upper and lower number (above 0) in least terms.");
        int[] upper = {0, 1, 1, 1, 1, 5, 1, 7, 2, 3, 5, 11, 1};
        int[] lower = {1, 12, 6, 4, 3, 12, 2, 12, 3, 4, 6, 12, 1};
        for (int n = 0; n <= 12; n++) share(houseOf("d5;c001"), 0, 3, n, upper[n], lower[n]);
    }

    private static void oddsTwentyFour() {
        on(18, "SOONEST is n at most (24 HOURS at most)");
        HourDoors x = houseOf("d5;l320;c114;c234");
        share(x, 3, 4, 24, 11, 12);
        share(x, 3, 4, 23, 5, 6);
        share(x, 4, 3, 24, 0, 1);
    }

    private static void oddsUnknown() {
        on(18, "LOST: UNKNOWN: ROOMS");
        for (int room : beside(0, 3)) {
            refuses("from " + room, LOST, x -> x.odds(room, 0, 0, 0));
            refuses("to " + room, LOST, x -> x.odds(0, room, 0, 1));
            refuses("both " + room, LOST, x -> x.odds(room, room, 25, 2));
        }
        share(furnished(), 3, 3, 0, 1, 1);
    }

    private static void oddsOutside() {
        on(18, "OUTSIDE: n (0 .. 24), which.");
        for (int n : beside(0, 24)) {
            refuses("n " + n, LOST, x -> x.odds(0, 0, n, 0));
            refuses("n " + n + ", the lower", LOST, x -> x.odds(0, 0, n, 1));
        }
        for (int which : beside(0, 1)) refuses("which " + which, LOST, x -> x.odds(0, 0, 0, which));
        share(furnished(), 0, 0, 0, 1, 1);
        share(furnished(), 0, 0, 24, 1, 1);
    }
}
