import java.util.Arrays;

/** The edges of promises 7 to 12, and of the terms' parts 2 and 3: each sentence has a test of its own. */
public final class WalkEdgesTest extends EdgeKit {
    /** 3 to 2 at any hour, 2 to 1 and 1 to 4 at 3 alone: from 3 to 4 it is 24 hours at 4, and 25 at 3. */
    private static final String FAR = "d5;l320;c114;c234";
    /** 2 to 3 at 0, to 1 at 6, to 0 at 9, 0 to 2 at each third hour: none leads out of 3. */
    private static final String ERRANDS_FAR = "d4;c024;c201";

    public static void main(String[] args) {
        hoursGoRound();
        doorsOfTheRoomAlone();
        staying();
        allEightDoors();
        firstWrong();
        walkOfNone();
        walkOfForty();
        walkWhat();
        walkWithFirstWrong();
        walkUnknown();
        walkOutside();
        walkCast();
        walkNull();
        walkIndex();
        walkNoAct();
        walkOrder();
        soonestToItself();
        soonestTwentyFour();
        soonestByNone();
        soonestFirstAsARow();
        soonestActs();
        soonestUnknown();
        soonestOutside();
        errandsOfNone();
        errandsWhereOneBegins();
        errandsTwentyFour();
        errandsUnknown();
        errandsOutside();
        meetAtOnce();
        meetTwentyFour();
        meetUnknown();
        meetOutside();
        cutLeast();
        cutNone();
        cutTwentyFour();
        cutUnknown();
        cutOutside();
        reachSets();
        reachTwentyFour();
        reachState();
        reachOutside();
        end();
    }

    /** A house, and acts on sheet 0 as ints. */
    private static HourDoors withActs(String text, int... acts) {
        HourDoors x = houseOf(text);
        row(x, 0, 2, acts);
        return x;
    }

    private static void walks(HourDoors x, int room, int hour, int n, int... want) {
        for (int what = 0; what < 5; what++) {
            String call = "walk from " + room + " at " + hour + " of " + n + " acts, what " + what;
            due(call, x.walk(room, hour, 0, 2, 0, n, what), want[what]);
        }
    }

    // ---- promise 7: the walk

    private static void hoursGoRound() {
        on(7, "HOURS go round by twelve: 0 .. 11, then 0 again.");
        // at hour h the door leads to h modulo 5, which is 2 at a twelfth hour, and 0 at 0
        HourDoors x = withActs("d5;p001", 1, 0, 1);
        walks(x, 0, 11, 1, 0, NONE, 1, 0, 0);
        walks(x, 0, 11, 2, 0, NONE, 1, 1, 1);
        walks(x, 0, 10, 2, 1, NONE, 3, 0, 1);
        walks(x, 0, 10, 3, 1, NONE, 3, 1, 1);
        due("soonest", x.soonest(0, 1, 11, -1), 1);
        due("soonest", x.soonest(0, 2, 10, -1), 5);
        due("errands", x.errands(0, 4, 10), 5);
        due("meet", x.meet(2, 0, 10), 5);
        // from 4 at 4: in 0 at 7, in 1 at 10, in 3 at 10 again, in 2 at 5: 25 hours; at 5: 24
        HourDoors far = houseOf("d5;c400;c015;c114;p342");
        for (int hour = 0; hour < 12; hour++) due("reach at " + hour, far.reach(hour), hour == 4 ? 11 : 27);
        for (int hour = 0; hour < 12; hour++) {
            HourDoors stays = withActs("d2;p000", new int[40]);
            due("40 hours from " + hour, stays.walk(0, hour, 0, 2, 0, 40, 3), (hour + 40) % 12);
            due("12 hours from " + hour, stays.walk(0, hour, 0, 2, 0, 12, 3), hour);
            due("no hours from " + hour, stays.walk(0, hour, 0, 2, 0, 0, 3), hour);
        }
    }

    private static void doorsOfTheRoomAlone() {
        on(7, "goes by a DOOR that is in that ROOM and not shut: in the next HOUR one is where it leads at this one.");
        HourDoors x = withActs("d3;p011;p110;c120", 0, 1);
        walks(x, 0, 0, 1, 1, NONE, 3, 1, 1);
        walks(x, 0, 1, 1, 2, NONE, 5, 2, 1);
        walks(x, 1, 0, 2, -100, 0, -100, -100, -100);
        walks(x, 2, 0, 2, -100, 0, -100, -100, -100);
        row(x, 0, 2, 2);
        for (int hour = 0; hour < 12; hour++) {
            if (hour % 3 == 0) walks(x, 1, hour, 1, 2, NONE, 6, hour + 1, 1);
            else walks(x, 1, hour, 1, -100, 0, -100, -100, -100);
        }
        row(x, 0, 2, 1);
        walks(x, 1, 7, 1, 1, NONE, 2, 8, 1);
    }

    private static void staying() {
        on(7, "A WALK: a row of ACTS: a DOOR's number; as many as there are DOORS: one stays.");
        String[] texts = {"d2;p010", "d2;p010;p100", "d2;p010;p100;p010;p100;p010;p100;p010;p100"};
        for (String text : texts) {
            int doors = (text.length() - 2) / 5;
            HourDoors x = withActs(text, doors, doors, 0, doors);
            walks(x, 0, 5, 1, 0, NONE, 1, 6, 0);
            walks(x, 1, 5, 2, 1, NONE, 2, 7, 0);
            walks(x, 0, 5, 4, 1, NONE, 3, 9, 1);
            row(x, 0, 2, doors + 1);
            due("one more is no act", x.walk(0, 0, 0, 2, 0, 1, 0), OUTSIDE);
        }
    }

    private static void allEightDoors() {
        on(7, "then 1 to 8 DOORS");
        HourDoors x = withActs("d6;p010;p120;p230;p340;p450;p500;p030;c050", 7, 5, 6, 8);
        walks(x, 0, 3, 4, 3, NONE, 41, 7, 3);
        acts(x, 0, 5, 0, 7);
        acts(x, 0, 5, 1, 6, 3, 4);
        acts(x, 0, 4, 1, 6, 3);
        acts(houseOf("d6;p010;p120;p230;p340;p450;p500;p330;c050"), 0, 5, 2, 8, 7);
        due("errands", x.errands(0, 63, 1), 5);
        due("errands", x.errands(0, 32, 0), 1);
        due("meet", x.meet(1, 4, 1), 3);
        due("meet", x.meet(0, 5, 0), 1);
        due("cut: 3, 4 and 5 are gone by", x.cut(3, 0, 0), 3);
        due("cut: without 7 one comes there by 4", x.cut(0, 5, 0), NONE);
        due("reach", x.reach(0), 63);
        due("odds: by the cupboard", x.odds(0, 5, 1, 1), 3);
    }

    private static void firstWrong() {
        on(7, "FIRST WRONG: the first ACT by a DOOR that is not there, or is shut.");
        HourDoors x = withActs("d3;p010;c120;p200", 0, 1, 2, 0, 2, 2);
        // at 2: to 1, then at 3 to 2, to 0, to 1, where door 2 is not
        due("the fifth act", x.walk(0, 2, 0, 2, 0, 6, 1), 4);
        due("no wrong one in four", x.walk(0, 2, 0, 2, 0, 4, 1), NONE);
        due("shut: the second", x.walk(0, 3, 0, 2, 0, 6, 1), 1);
        due("not there: the first", x.walk(1, 3, 0, 2, 0, 6, 1), 0);
        due("of none", x.walk(1, 3, 0, 2, 0, 0, 1), NONE);
        int[] last = new int[40];
        Arrays.fill(last, 3);
        last[39] = 2;
        due("the fortieth", withActs("d3;p010;c120;p200", last).walk(0, 0, 0, 2, 0, 40, 1), 39);
        due("the fortieth", withActs("d3;p010;c120;p200", last).walk(0, 0, 0, 2, 0, 40, 0), -139);
        due("39", withActs("d3;p010;c120;p200", last).walk(0, 0, 0, 2, 0, 39, 1), NONE);
    }

    private static void walkOfNone() {
        on(7, "n (0 .. 40): no ACTS");
        HourDoors x = withActs("d3;p010", 0);
        for (int room = 0; room < 3; room++) walks(x, room, 11, 0, room, NONE, 1 << room, 11, 0);
        x.sheet(0, 2, 0);
        walks(x, 2, 0, 0, 2, NONE, 4, 0, 0);
    }

    private static void walkOfForty() {
        on(7, "n (0 .. 40): forty ACTS");
        int[] acts = new int[60];
        for (int t = 0; t < 60; t++) acts[t] = t % 2;
        HourDoors x = withActs("d2;p010;p100", acts);
        walks(x, 0, 11, 40, 0, NONE, 3, 3, 40);
        walks(x, 0, 11, 39, 1, NONE, 3, 2, 39);
        due("the last forty of sixty", x.walk(0, 0, 0, 2, 20, 40, 4), 40);
        for (int what = 0; what < 5; what++) due("41", x.walk(0, 11, 0, 2, 0, 41, what), OUTSIDE);
    }

    private static void walkWhat() {
        on(7, "the ROOM at its end (what 0), its FIRST WRONG (1; NONE), ROOMS in which one was, as a set (2),"
            + " the HOUR at its end (3), how often one went by a DOOR (4)");
        HourDoors x = withActs("d6;p050;p500;p050", 0, 3, 1, 2);
        walks(x, 0, 9, 4, 5, NONE, 33, 1, 3);
        walks(x, 5, 9, 0, 5, NONE, 32, 9, 0);
        row(x, 0, 2, 3);
        walks(x, 3, 9, 1, 3, NONE, 8, 10, 0);
        // a door that leads to where it is is gone by
        walks(withActs("d2;p000", 0, 1, 0), 0, 0, 3, 0, NONE, 1, 3, 2);
        for (int what : beside(0, 4)) refusesByName("what " + what, OUTSIDE, y -> y.walk(0, 0, 1, 1, 0, 0, what));
    }

    private static void walkWithFirstWrong() {
        on(7, "of one with a FIRST WRONG: -100 less that (but what 1)");
        for (int t = 0; t < 40; t++) {
            int[] acts = new int[40];
            Arrays.fill(acts, 2);
            acts[t] = 1;
            HourDoors x = withActs("d2;p010;p100", acts);
            walks(x, 0, 0, 40, -100 - t, t, -100 - t, -100 - t, -100 - t);
            due("no fault", x.fault(), 0);
        }
        HourDoors x = furnished();
        x.put(3, 0, 0);
        // door 0 is not in room 1
        due("it comes to no fault", x.walk(1, 0, 1, 1, 1, 1, 0), -100);
        due("no fault", x.fault(), 0);
    }

    // ---- promise 7: the call

    private static void walkUnknown() {
        on(7, "UNKNOWN: ROOM, SHEET");
        for (int room : beside(0, 3)) refusesByName("room " + room, UNKNOWN, x -> x.walk(room, 0, 1, 1, 0, 1, 0));
        for (int k : beside(0, 3)) refusesByName("sheet " + k, UNKNOWN, x -> x.walk(0, 0, k, 1, 0, 1, 0));
        due("the last room", furnished().walk(3, 0, 1, 1, 0, 1, 0), 3);
    }

    private static void walkOutside() {
        on(7, "OUTSIDE: hour (0 .. 11), lane, n (0 .. 40), what (0 .. 4)");
        for (int hour : beside(0, 11)) refusesByName("hour " + hour, OUTSIDE, x -> x.walk(0, hour, 1, 1, 0, 1, 0));
        for (int lane : beside(0, 2)) refusesByName("lane " + lane, OUTSIDE, x -> x.walk(0, 0, 1, lane, 0, 1, 0));
        for (int n : beside(0, 40)) refusesByName("n " + n, OUTSIDE, x -> x.walk(0, 0, 1, 1, 0, n, 0));
        for (int what : beside(0, 4)) refusesByName("what " + what, OUTSIDE, x -> x.walk(0, 0, 1, 1, 0, 1, what));
        due("hour 0", furnished().walk(0, 0, 1, 1, 0, 1, 3), 1);
        due("hour 11", furnished().walk(0, 11, 1, 1, 0, 1, 3), 0);
        faults("n 40 is none of these", INDEX, x -> x.walk(0, 0, 1, 1, 0, 40, 0));
    }

    private static void walkCast() {
        on(7, "CAST: of n such cells, taken as a row of a LANE");
        for (int k = 0; k < 3; k++) {
            for (int lane = 0; lane < 3; lane++) {
                int sheet = k;
                int as = lane;
                if (k != lane) faults("sheet " + k + " as " + lane, CAST, x -> x.walk(0, 0, sheet, as, 0, 0, 0));
                if (k == lane) due("sheet " + k + " as " + lane, furnished().walk(2, 0, k, lane, 0, 0, 0), 2);
                faults("nothing as " + lane, NULL, x -> x.walk(0, 0, 3, as, 0, 0, 0));
            }
        }
        for (int lane = 0; lane < 3; lane++) {
            HourDoors x = houseOf("d2;p010;p100");
            row(x, 1, lane, 0, 1, 2);
            due("lane " + lane, x.walk(0, 0, 1, lane, 0, 3, 4), 2);
        }
    }

    private static void walkNull() {
        on(7, "NULL: of n such cells");
        faults("nothing", NULL, x -> x.walk(0, 0, 3, 1, 0, 0, 0));
        faults("nothing any more", NULL, x -> {
            x.sheet(3, 1, 1);
            x.lose(3);
            return x.walk(0, 0, 3, 1, 0, 0, 0);
        });
    }

    private static void walkIndex() {
        on(7, "INDEX (of cells from i on also where i is not 0 .. how many there are, if none of them is taken, too)");
        for (int i = -2; i <= 5; i++) {
            for (int n = 0; n <= 5; n++) {
                int from = i;
                int many = n;
                String call = n + " of 3 cells from " + i + " on";
                boolean there = i >= 0 && i + n <= 3;
                if (there) due(call, withActs("d2;p010", 1, 1, 1).walk(0, 0, 0, 2, i, n, 3), n);
                else faults(call, INDEX, x -> x.walk(0, 0, 2, 2, from, many, 3));
            }
        }
        for (int i : new int[] {LOW, LOW + 1, HIGH - 40, HIGH - 1, HIGH}) {
            for (int n : new int[] {0, 1, 40}) faults(n + " from " + i, INDEX, x -> x.walk(0, 0, 2, 2, i, n, 0));
        }
    }

    private static void walkNoAct() {
        on(7, "OUTSIDE: a cell is no ACT.");
        // sheet 1 has 3 0 3 9 -7, and 3 stays
        refusesByName("9", OUTSIDE, x -> x.walk(0, 0, 1, 1, 3, 1, 0));
        refusesByName("-7", OUTSIDE, x -> x.walk(0, 0, 1, 1, 4, 1, 0));
        refusesByName("the last of four", OUTSIDE, x -> x.walk(0, 0, 1, 1, 0, 4, 1));
        refusesByName("behind a wrong act", OUTSIDE, x -> x.walk(1, 0, 1, 1, 1, 3, 1));
        refusesByName("70000", OUTSIDE, x -> x.walk(0, 0, 2, 2, 0, 1, 1));
        due("one that is not taken", furnished().walk(0, 0, 1, 1, 0, 3, 1), NONE);
        HourDoors x = houseOf("d2;p010");
        for (int act : new int[] {2, -1, LOW, HIGH}) {
            row(x, 0, 2, act);
            for (int what = 0; what < 5; what++) due("act " + act, x.walk(0, 0, 0, 2, 0, 1, what), OUTSIDE);
        }
        for (int act = 0; act < 2; act++) {
            row(x, 0, 2, act);
            due("act " + act, x.walk(0, 0, 0, 2, 0, 1, 1), NONE);
        }
    }

    private static void walkOrder() {
        on(7, "UNKNOWN: ROOM, SHEET; OUTSIDE: ..; CAST; NULL; INDEX; OUTSIDE: a cell is no ACT.");
        refusesByName("all wrong", UNKNOWN, x -> x.walk(4, 12, 4, 3, -1, 41, 5));
        refusesByName("sheet and all behind", UNKNOWN, x -> x.walk(0, 12, 4, 3, -1, 41, 5));
        refusesByName("room and all behind", UNKNOWN, x -> x.walk(4, 12, 0, 3, -1, 41, 5));
        refusesByName("hour, cast, index", OUTSIDE, x -> x.walk(0, 12, 0, 1, -1, 1, 0));
        refusesByName("hour, nothing", OUTSIDE, x -> x.walk(0, 12, 3, 1, 0, 1, 0));
        refusesByName("lane, index", OUTSIDE, x -> x.walk(0, 0, 0, 3, -1, 1, 0));
        refusesByName("lane, nothing", OUTSIDE, x -> x.walk(0, 0, 3, 3, -1, 1, 0));
        refusesByName("n, cast, index", OUTSIDE, x -> x.walk(0, 0, 0, 1, -1, 41, 0));
        refusesByName("a length below 0, nothing", OUTSIDE, x -> x.walk(0, 0, 3, 1, -1, -1, 0));
        refusesByName("what, cast, index", OUTSIDE, x -> x.walk(0, 0, 0, 1, -1, 1, 5));
        refusesByName("what, nothing", OUTSIDE, x -> x.walk(0, 0, 3, 1, -1, 1, 5));
        faults("cast, index", CAST, x -> x.walk(0, 0, 0, 1, -1, 1, 0));
        faults("nothing, index", NULL, x -> x.walk(0, 0, 3, 1, -1, 1, 0));
        faults("index, no act", INDEX, x -> x.walk(0, 0, 1, 1, 3, 3, 0));
    }

    // ---- two rooms and an hour

    /** A call of two rooms and an hour. */
    private interface OfRooms {
        int of(HourDoors x, int a, int b, int hour);
    }

    private static void unknownRooms(OfRooms call) {
        for (int room : beside(0, 3)) {
            refuses("the first " + room, UNKNOWN, x -> call.of(x, room, 0, 0));
            refuses("the second " + room, UNKNOWN, x -> call.of(x, 0, room, 0));
            refuses("both " + room, UNKNOWN, x -> call.of(x, room, room, 0));
            refuses("the first " + room + ", hour", UNKNOWN, x -> call.of(x, room, 0, 12));
            refuses("the second " + room + ", hour", UNKNOWN, x -> call.of(x, 0, room, -1));
        }
    }

    private static void outsideHours(OfRooms call) {
        for (int hour : beside(0, 11)) {
            refuses("hour " + hour, OUTSIDE, x -> call.of(x, 0, 1, hour));
            refuses("hour " + hour + " in one room", OUTSIDE, x -> call.of(x, 0, 0, hour));
        }
    }

    // ---- promise 8

    private static void acts(HourDoors x, int from, int to, int hour, int... acts) {
        String call = "soonest(" + from + ", " + to + ", " + hour + ", ";
        due(call + "-1)", x.soonest(from, to, hour, -1), acts.length);
        for (int k = 0; k < 24; k++) {
            due(call + k + ")", x.soonest(from, to, hour, k), k < acts.length ? acts[k] : NONE);
        }
    }

    private static void soonestToItself() {
        on(8, "behind which one can be there (0 to itself)");
        for (int room = 0; room < 6; room++) acts(houseOf("d6;p010;p100"), room, room, 11);
    }

    private static void soonestTwentyFour() {
        on(8, "SOONEST from a ROOM at an HOUR to another one: the fewest HOURS, 24 at most");
        HourDoors x = houseOf(FAR);
        // 2 leads to 3 at 6 and to itself at 0, 1 to itself at 6: such doors come ahead of staying
        acts(x, 3, 4, 4, 0, 3, 2, 0, 3, 3, 3, 3, 2, 3, 3, 2, 3, 3, 1, 3, 3, 3, 3, 3, 3, 3, 3, 1);
        acts(x, 3, 4, 5, 0, 2, 0, 3, 3, 3, 3, 2, 3, 3, 2, 3, 3, 1, 3, 3, 3, 3, 3, 3, 3, 3, 1);
        due("25 hours", x.soonest(3, 4, 3, -1), NONE);
        due("27 hours", houseOf("d5;c311;c135;c241").soonest(1, 0, 10, -1), NONE);
        due("1 hour", houseOf("d2;p010").soonest(0, 1, 11, -1), 1);
    }

    private static void soonestByNone() {
        on(8, "NONE: by none.");
        HourDoors x = houseOf(FAR);
        due("no door leads there", x.soonest(4, 3, 0, -1), NONE);
        due("25 hours", x.soonest(3, 4, 3, -1), NONE);
        for (int k = 0; k < 24; k++) {
            due("act " + k + " of none", x.soonest(4, 3, 0, k), NONE);
            due("act " + k + " of 25", x.soonest(3, 4, 3, k), NONE);
        }
    }

    private static void soonestFirstAsARow() {
        on(8, "the WALK: of several the first as a row");
        acts(houseOf("d3;p010;p010;p120;p120"), 0, 2, 0, 0, 2);
        acts(houseOf("d3;p120;p010;p120;p010"), 0, 2, 0, 1, 0);
        // a door that leads to where it is comes ahead of staying
        acts(houseOf("d2;c010;p000"), 0, 1, 1, 1, 1, 0);
        acts(houseOf("d2;p000;c010"), 0, 1, 1, 0, 0, 1);
        // the lesser door first, even if one comes back by it and goes on by the greater one
        acts(houseOf("d3;p010;c020;p100"), 0, 2, 1, 0, 2, 1);
        // but not where it is then too late
        acts(houseOf("d3;p010;c020;p100"), 0, 2, 2, 3, 1);
        acts(houseOf("d3;p010;c020;p100"), 0, 2, 3, 1);
        // the later act decides where the first is the same
        acts(houseOf("d4;p010;p130;p120;p230;p200"), 0, 3, 0, 0, 1);
        // by a shut door none goes
        acts(houseOf("d3;c020;p010;p120"), 0, 2, 1, 1, 2);
        acts(houseOf("d3;c020;p010;p120"), 0, 2, 0, 0);
    }

    private static void soonestActs() {
        on(8, "HOURS (k -1), ACT k of the WALK (0 .. 23); NONE: there is no such ACT.");
        HourDoors x = houseOf(FAR);
        due("hours", x.soonest(3, 4, 4, -1), 24);
        due("act 0", x.soonest(3, 4, 4, 0), 0);
        due("act 23 of 24", x.soonest(3, 4, 4, 23), 1);
        due("act 22 of 23", x.soonest(3, 4, 5, 22), 1);
        due("act 23 of 23", x.soonest(3, 4, 5, 23), NONE);
        due("act 0 of 0", x.soonest(3, 3, 5, 0), NONE);
        due("act 0 of 1", x.soonest(3, 2, 5, 0), 0);
        due("act 1 of 1", x.soonest(3, 2, 5, 1), NONE);
    }

    private static void soonestUnknown() {
        on(8, "UNKNOWN: ROOMS");
        unknownRooms((x, from, to, hour) -> x.soonest(from, to, hour, -1));
        for (int room : beside(0, 3)) {
            refuses("from " + room + ", k", UNKNOWN, x -> x.soonest(room, 0, 0, 24));
            refuses("to " + room + ", k", UNKNOWN, x -> x.soonest(0, room, 0, -2));
        }
    }

    private static void soonestOutside() {
        on(8, "OUTSIDE: hour (0 .. 11), k.");
        outsideHours((x, from, to, hour) -> x.soonest(from, to, hour, -1));
        for (int k : beside(-1, 23)) {
            refuses("k " + k, OUTSIDE, x -> x.soonest(0, 0, 0, k));
            refuses("k " + k + " of none", OUTSIDE, x -> x.soonest(3, 0, 0, k));
        }
        due("hour 0", furnished().soonest(0, 1, 0, -1), 1);
        due("hour 11", furnished().soonest(0, 0, 11, -1), 0);
    }

    // ---- promise 9

    private static void errandsOfNone() {
        on(9, "ERRANDS of an empty set");
        for (int room = 0; room < 6; room++) due("from " + room, houseOf("d6;p010").errands(room, 0, 7), 0);
    }

    private static void errandsWhereOneBegins() {
        on(9, "behind which one can have been in all of a set of ROOMS (where one begins counts)");
        HourDoors x = houseOf("d6;p010;p150;p500");
        due("where one begins", x.errands(0, 1, 0), 0);
        due("where one begins, and never again", houseOf("d2;p010").errands(0, 3, 0), 1);
        due("the last room alone", x.errands(5, 32, 0), 0);
        due("three", x.errands(0, 35, 0), 2);
        due("a room on the way that is not asked", x.errands(0, 33, 0), 2);
        due("three from the last", x.errands(5, 35, 0), 2);
        due("a room that none leads to", x.errands(0, 63, 0), NONE);
        due("where one begins, of those that none leads to", x.errands(4, 16, 0), 0);
        due("and no other", x.errands(4, 17, 0), NONE);
        HourDoors all = houseOf("d6;p010;p120;p230;p340;p450");
        due("all six", all.errands(0, 63, 0), 5);
        due("all six from the second", all.errands(1, 63, 0), NONE);
    }

    private static void errandsTwentyFour() {
        on(9, "ERRANDS: the fewest HOURS, 24 at most .. NONE");
        HourDoors x = houseOf(ERRANDS_FAR);
        due("0 and 3, 24 hours", x.errands(2, 9, 1), 24);
        due("0 and 3, 25 hours", x.errands(2, 9, 0), NONE);
        due("0 alone", x.errands(2, 1, 0), 10);
        due("3 alone", x.errands(2, 8, 0), 1);
        HourDoors one = houseOf(FAR);
        due("one room, 24 hours", one.errands(3, 16, 4), 24);
        due("one room, 25 hours", one.errands(3, 16, 3), NONE);
    }

    private static void errandsUnknown() {
        on(9, "UNKNOWN: ROOM");
        for (int room : beside(0, 3)) {
            refuses("from " + room, UNKNOWN, x -> x.errands(room, 0, 0));
            refuses("from " + room + ", set, hour", UNKNOWN, x -> x.errands(room, 16, 12));
        }
    }

    private static void errandsOutside() {
        on(9, "OUTSIDE: set (of ROOMS that there are), hour (0 .. 11)");
        for (int set : beside(0, 15)) refuses("set " + set, OUTSIDE, x -> x.errands(0, set, 0));
        refuses("a room there is and one there is not", OUTSIDE, x -> x.errands(0, 17, 0));
        for (int hour : beside(0, 11)) refuses("hour " + hour, OUTSIDE, x -> x.errands(0, 0, hour));
        for (int rooms = 2; rooms <= 6; rooms++) {
            HourDoors x = houseOf("d" + rooms + ";p010");
            int all = (1 << rooms) - 1;
            due("all of " + rooms, x.errands(0, all, 0), rooms == 2 ? 1 : NONE);
            due("one more than " + rooms, x.errands(0, all + 1, 0), OUTSIDE);
        }
        due("hour 11", furnished().errands(0, 1, 11), 0);
    }

    // ---- promise 10

    private static void meetAtOnce() {
        on(10, "MEET of two: the fewest HOURS behind which they can be in one ROOM");
        for (int room = 0; room < 6; room++) due("in one room", houseOf("d6;p010").meet(room, room, 11), 0);
        HourDoors x = houseOf("d6;p050;p150;p200;p310");
        due("one goes to the other", x.meet(0, 5, 0), 1);
        due("the other goes to one", x.meet(5, 0, 0), 1);
        due("both go", x.meet(0, 1, 0), 1);
        due("both go twice", x.meet(2, 3, 0), 2);
        due("they pass each other by, but one can stay", houseOf("d2;p010;p100").meet(0, 1, 0), 1);
        due("they can't pass on to one room", x.meet(4, 0, 0), NONE);
    }

    private static void meetTwentyFour() {
        on(10, "MEET of two: .. 24 at most .. NONE");
        HourDoors x = houseOf(FAR);
        due("24 hours", x.meet(3, 4, 4), 24);
        due("24 hours, the other way round", x.meet(4, 3, 4), 24);
        due("25 hours", x.meet(3, 4, 3), NONE);
        due("25 hours, the other way round", x.meet(4, 3, 3), NONE);
        due("never", x.meet(0, 4, 0), NONE);
    }

    private static void meetUnknown() {
        on(10, "UNKNOWN: ROOMS");
        unknownRooms(HourDoors::meet);
    }

    private static void meetOutside() {
        on(10, "OUTSIDE: hour (0 .. 11).");
        outsideHours(HourDoors::meet);
        due("hour 11", furnished().meet(0, 0, 11), 0);
    }

    // ---- promise 11

    private static void cutLeast() {
        on(11, "CUT: the least DOOR without which there is no WALK so");
        due("the first", houseOf("d3;p010;p120").cut(0, 2, 0), 0);
        due("the first, gone by last", houseOf("d3;p120;p010").cut(0, 2, 0), 0);
        due("the last of eight", houseOf("d3;p010;p010;p010;p010;p010;p010;p010;p120").cut(0, 2, 0), 7);
        due("not one that one goes by first", houseOf("d3;p010;p010;p120").cut(0, 2, 0), 2);
        due("not one that leads elsewhere", houseOf("d3;p000;p200;p020").cut(0, 2, 0), 2);
        HourDoors x = houseOf("d3;p010;p120");
        x.cut(0, 2, 0);
        due("the doors are as they were", x.soonest(0, 2, 0, -1), 2);
    }

    private static void cutNone() {
        on(11, "NONE: there is no such DOOR, or none anyhow.");
        due("two like doors", houseOf("d2;p010;p010").cut(0, 1, 0), NONE);
        due("two ways", houseOf("d4;p010;p020;p130;p230").cut(0, 3, 0), NONE);
        due("a way that takes longer", houseOf("d3;p020;p010;p120").cut(0, 2, 0), NONE);
        for (int room = 0; room < 3; room++) due("to itself", houseOf("d3;p010;p120").cut(room, room, 0), NONE);
        due("none anyhow", houseOf("d3;p010;p120").cut(2, 0, 0), NONE);
        due("none anyhow, to the last", houseOf("d3;p010").cut(0, 2, 0), NONE);
    }

    private static void cutTwentyFour() {
        on(11, "no WALK so: the fewest HOURS, 24 at most");
        due("24 hours in all", houseOf(FAR).cut(3, 4, 4), 0);
        due("25 hours in all", houseOf(FAR).cut(3, 4, 3), NONE);
        due("24 hours without the fourth", houseOf(FAR + ";p340").cut(3, 4, 4), NONE);
        due("25 hours without the fourth", houseOf(FAR + ";p340").cut(3, 4, 3), 3);
        due("25 hours without the first", houseOf("d5;p340;l320;c114;c234").cut(3, 4, 3), 0);
    }

    private static void cutUnknown() {
        on(11, "UNKNOWN: ROOMS");
        unknownRooms(HourDoors::cut);
    }

    private static void cutOutside() {
        on(11, "OUTSIDE: hour (0 .. 11).");
        outsideHours(HourDoors::cut);
        due("hour 11", furnished().cut(0, 0, 11), NONE);
    }

    // ---- promise 12

    private static void reachSets() {
        on(12, "REACH at an HOUR: ROOMS from which there is SOONEST to each ROOM, as a set.");
        due("none", houseOf("d6;p000").reach(0), 0);
        due("the first", houseOf("d3;p010;p120").reach(0), 1);
        due("the last of six", houseOf("d6;p500;p010;p120;p230;p340").reach(0), 32);
        due("all six", houseOf("d6;p500;p010;p120;p230;p340;p450").reach(0), 63);
        due("all two", houseOf("d2;p100;p010").reach(11), 3);
        due("one of two", houseOf("d2;p100").reach(11), 2);
    }

    private static void reachTwentyFour() {
        on(12, "from which there is SOONEST (24 HOURS at most)");
        due("24 hours from 3", houseOf(FAR).reach(4), 2 | 4 | 8);
        due("25 hours from 3", houseOf(FAR).reach(3), 2 | 4);
    }

    private static void reachState() {
        on(12, "STATE: there is no HOUSE");
        refuses("no house", STATE, HourDoors::new, x -> x.reach(0));
        for (int hour : beside(0, 11)) refuses("no house, no hour", STATE, HourDoors::new, x -> x.reach(hour));
        HourDoors x = new HourDoors();
        due("a text that is not taken", take(x, "d2;p01"), -106);
        due("still no house", x.reach(0), STATE);
    }

    private static void reachOutside() {
        on(12, "OUTSIDE: hour (0 .. 11).");
        for (int hour : beside(0, 11)) refuses("hour " + hour, OUTSIDE, x -> x.reach(hour));
        due("hour 0", houseOf("d2;p010").reach(0), 1);
        due("hour 11", houseOf("d2;p010").reach(11), 1);
    }
}
