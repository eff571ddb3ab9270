/** For each promise of the document: ordinary calls, the edges that it names, wrong ones. */
public final class PromisesTest extends TestKit {
    public static void main(String[] args) {
        constants();
        aNewObject();
        texts();
        textsAndFaults();
        ofDoor();
        leads();
        step();
        turn();
        walk();
        walkRefusals();
        soonest();
        errands();
        meet();
        cut();
        reach();
        theLongest();
        roundTheClock();
        behindALargerHouse();
        reading();
        back();
        steps();
        targets();
        kinds();
        odds();
        sheet();
        lose();
        put();
        cell();
        copy();
        tell();
        knock();
        as();
        trace();
        fault();
        many();
        end();
    }

    private static void constants() {
        due(0, "UNKNOWN", HourDoors.UNKNOWN, -1);
        due(0, "OUTSIDE", HourDoors.OUTSIDE, -2);
        due(0, "STATE", HourDoors.STATE, -3);
        due(0, "FULL", HourDoors.FULL, -4);
        due(0, "NONE", HourDoors.NONE, -9);
        due(0, "LOST", HourDoors.LOST, Long.MIN_VALUE);
    }

    private static void aNewObject() {
        HourDoors x = new HourDoors();
        for (int what = 0; what < 3; what++) due(1, "many", x.many(what), 0);
        due(1, "trace", x.trace(), 0);
        due(1, "fault", x.fault(), 0);
        due(1, "ofDoor", x.ofDoor(0, 0), UNKNOWN);
        due(1, "leads", x.leads(0, 0), UNKNOWN);
        due(1, "step", x.step(0, 0), UNKNOWN);
        due(1, "turn", x.turn(0, 0), UNKNOWN);
        due(1, "walk", x.walk(0, 0, 0, 0, 0, 0, 0), UNKNOWN);
        due(1, "soonest", x.soonest(0, 0, 0, -1), UNKNOWN);
        due(1, "errands", x.errands(0, 0, 0), UNKNOWN);
        due(1, "meet", x.meet(0, 0, 0), UNKNOWN);
        due(1, "cut", x.cut(0, 0, 0), UNKNOWN);
        due(1, "reach", x.reach(0), STATE);
        due(1, "reading", x.reading(0, 0, 0), UNKNOWN);
        due(1, "back(0)", x.back(0), 0);
        due(1, "back(1)", x.back(1), OUTSIDE);
        due(1, "steps", x.steps(0), UNKNOWN);
        due(1, "targets", x.targets(0), UNKNOWN);
        due(1, "kinds", x.kinds(0), UNKNOWN);
        due(1, "odds", x.odds(0, 0, 0, 0), LOST);
        due(1, "tell", x.tell(0), UNKNOWN);
        due(1, "knock", x.knock(0), UNKNOWN);
        due(1, "as", x.as(0, 0), UNKNOWN);
        for (int k = 0; k < 4; k++) {
            due(1, "put", x.put(k, 0, 0), NULL);
            due(1, "cell", x.cell(k, 0, 0), LOST);
            due(1, "lose", x.lose(k), 0);
        }
    }

    private static void texts() {
        due(2, "one door", take(new HourDoors(), "d2;p010"), 1);
        due(2, "all digits", take(new HourDoors(), "d6;p555;l000;c345"), 3);
        String eight = "d6;p000;p111;p222;p333;p444;p555;l012;c345";
        due(2, "eight doors", take(new HourDoors(), eight), 8);
        due(2, "ninth door", take(new HourDoors(), eight + ";p000"), -142);
        due(2, "ninth ;", take(new HourDoors(), eight + ";"), -142);
        due(2, "nothing", take(new HourDoors(), ""), -100);
        due(2, "d", take(new HourDoors(), "d"), -101);
        due(2, "d2", take(new HourDoors(), "d2"), -102);
        due(2, "d2;", take(new HourDoors(), "d2;"), -103);
        due(2, "d2;p", take(new HourDoors(), "d2;p"), -104);
        due(2, "d2;p0", take(new HourDoors(), "d2;p0"), -105);
        due(2, "d2;p01", take(new HourDoors(), "d2;p01"), -106);
        due(2, "d2;p010;", take(new HourDoors(), "d2;p010;"), -108);
        due(2, "d2;p010;c11", take(new HourDoors(), "d2;p010;c11"), -111);
        due(2, "D2", take(new HourDoors(), "D2;p010"), -100);
        due(2, "d1", take(new HourDoors(), "d1;p000"), -101);
        due(2, "d7", take(new HourDoors(), "d7;p000"), -101);
        due(2, "d2p", take(new HourDoors(), "d2pp010"), -102);
        due(2, "kind", take(new HourDoors(), "d2;q010"), -103);
        due(2, "its room", take(new HourDoors(), "d2;p210"), -104);
        due(2, "/ as its room", take(new HourDoors(), "d2;p/10"), -104);
        due(2, "to", take(new HourDoors(), "d3;p030"), -105);
        due(2, "/ as to", take(new HourDoors(), "d3;p0/0"), -105);
        due(2, "step", take(new HourDoors(), "d6;p016"), -106);
        due(2, "/ as step", take(new HourDoors(), "d6;p01/"), -106);
        due(2, "behind a door", take(new HourDoors(), "d2;p010p"), -107);
        due(2, "a wrong code ahead of the end", take(new HourDoors(), "d2;p010;p9"), -109);
    }

    private static void textsAndFaults() {
        for (int lane = 0; lane < 3; lane++) {
            HourDoors x = new HourDoors();
            due(2, "nothing, wrong size", x.house(0, lane, -1, -1), NULL);
            write(x, 0, lane, 3, "d4;c123;l032", 2);
            due(2, "from 3 on", x.house(0, lane, 3, 12), 2);
            due(2, "kind", x.ofDoor(0, 0), 2);
            due(2, "second door", x.ofDoor(1, 3), 2);
            x.reading(0, 0, 0);
            due(2, "from 2 on", x.house(0, lane, 2, 12), -100);
            due(2, "as it was", x.many(0), 2);
            due(2, "as it was", x.many(2), 1);
            due(2, "no fault", x.fault(), 0);
            due(2, "one door of it", x.house(0, lane, 3, 7), 1);
            due(2, "no readings", x.many(2), 0);
            due(2, "one door", x.many(0), 1);
            due(2, "unknown", x.house(4, 3, -1, -1), UNKNOWN);
            due(2, "unknown", x.house(-1, lane, 0, 0), UNKNOWN);
            due(2, "outside", x.house(0, 3, -1, -1), OUTSIDE);
            due(2, "outside", x.house(0, -1, 3, 12), OUTSIDE);
            due(2, "cast", x.house(0, (lane + 1) % 3, -1, -1), CAST);
            due(2, "size", x.house(0, lane, -1, -1), SIZE);
            due(2, "size", x.house(0, lane, 0, LOW), SIZE);
            due(2, "index", x.house(0, lane, -1, 0), INDEX);
            due(2, "index", x.house(0, lane, 18, 0), INDEX);
            due(2, "index", x.house(0, lane, 3, 15), INDEX);
            due(2, "index", x.house(0, lane, HIGH, HIGH), INDEX);
            due(2, "index", x.house(0, lane, LOW, 1), INDEX);
            due(2, "index", x.house(0, lane, 1, HIGH), INDEX);
            due(2, "none at the end", x.house(0, lane, 17, 0), -100);
            due(2, "to the end", x.house(0, lane, 3, 14), -112);
            due(2, "the sheet is as it was", x.cell(0, 3, lane), 'd');
        }
        HourDoors x = houseOf("d2;p010");
        row(x, 0, 2, 'd' + 256, '2', ';', 'p', '0', '1', '0');
        due(2, "another code", x.house(0, 2, 0, 7), -100);
        row(x, 0, 0, 'd' + 256, '2', ';', 'p', '0', '1', '0');
        due(2, "cut to a byte", x.house(0, 0, 0, 7), 1);
    }

    private static void ofDoor() {
        HourDoors x = houseOf("d6;p541;l305;c012");
        int[][] told = {{0, 5, 4, 1}, {1, 3, 0, 5}, {2, 0, 1, 2}};
        for (int d = 0; d < 3; d++) {
            for (int what = 0; what < 4; what++) due(3, "ofDoor " + d + " " + what, x.ofDoor(d, what), told[d][what]);
            due(3, "what 4", x.ofDoor(d, 4), OUTSIDE);
            due(3, "what -1", x.ofDoor(d, -1), OUTSIDE);
        }
        due(3, "door 3", x.ofDoor(3, 0), UNKNOWN);
        due(3, "door 3, what 9", x.ofDoor(3, 9), UNKNOWN);
        due(3, "door -1", x.ofDoor(-1, 0), UNKNOWN);
        take(x, "d2;p000");
        due(3, "a door that was", x.ofDoor(1, 0), UNKNOWN);
    }

    private static void leads() {
        HourDoors x = houseOf("d5;p012;l012;c012");
        int[] plain = {1, 3, 0, 2, 4, 1, 3, 0, 2, 4, 1, 3};
        for (int hour = 0; hour < 12; hour++) {
            int late = plain[(hour + 11) % 12];
            due(4, "plain at " + hour, x.leads(0, hour), plain[hour]);
            due(4, "late at " + hour, x.leads(1, hour), late);
            due(4, "cupboard at " + hour, x.leads(2, hour), hour % 3 == 0 ? late : NONE);
        }
        due(4, "late at 0, as at 11", x.leads(1, 0), 3);
        due(4, "hour 12", x.leads(0, 12), OUTSIDE);
        due(4, "hour -1", x.leads(2, -1), OUTSIDE);
        due(4, "door 3", x.leads(3, 12), UNKNOWN);
        due(4, "door -1", x.leads(-1, 0), UNKNOWN);
    }

    private static void step() {
        HourDoors x = houseOf("d6;p012;c230");
        due(5, "becomes 5", x.step(0, 5), 2);
        due(5, "leads", x.leads(0, 1), 0);
        due(5, "becomes 0", x.step(0, 0), 5);
        due(5, "is 0", x.ofDoor(0, 3), 0);
        due(5, "the other", x.ofDoor(1, 3), 0);
        due(5, "6", x.step(1, 6), OUTSIDE);
        due(5, "-1", x.step(1, -1), OUTSIDE);
        due(5, "as it was", x.ofDoor(1, 3), 0);
        due(5, "door 2", x.step(2, 6), UNKNOWN);
        due(5, "door -1", x.step(-1, 0), UNKNOWN);
        x.reading(0, 0, 1);
        x.step(0, 3);
        due(5, "readings are kept", x.many(2), 1);
    }

    private static void turn() {
        HourDoors x = houseOf("d4;p010;l231");
        due(6, "to 3", x.turn(0, 3), 1);
        due(6, "leads", x.leads(0, 7), 3);
        due(6, "to 0", x.turn(1, 0), 3);
        due(6, "to is 0", x.ofDoor(1, 2), 0);
        due(6, "its room is as it was", x.ofDoor(1, 1), 2);
        due(6, "room 4", x.turn(0, 4), UNKNOWN);
        due(6, "room -1", x.turn(0, -1), UNKNOWN);
        due(6, "room NONE", x.turn(0, NONE), UNKNOWN);
        due(6, "door 2", x.turn(2, 0), UNKNOWN);
        due(6, "door -1", x.turn(-1, 0), UNKNOWN);
        due(6, "as it was", x.ofDoor(0, 2), 3);
    }

    private static void walked(HourDoors x, int room, int hour, int i, int n, int... want) {
        for (int what = 0; what < 5; what++) {
            String call = "walk(" + room + ", " + hour + ", 0, 0, " + i + ", " + n + ", " + what + ")";
            due(7, call, x.walk(room, hour, 0, 0, i, n, what), want[what]);
        }
    }

    private static void walk() {
        // at hour h: door 0 leads to (1 + h) % 3, 1 to (2 + h - 1) % 3, 2 to 0 at 0, 3, 6, 9
        HourDoors x = houseOf("d3;p011;l121;c200");
        row(x, 0, 0, 0, 3, 1, 2, 0, 3, 3, 3, 3, 3);
        walked(x, 0, 0, 0, 0, 0, NONE, 1, 0, 0);
        walked(x, 0, 0, 0, 1, 1, NONE, 3, 1, 1);
        walked(x, 0, 0, 0, 2, 1, NONE, 3, 2, 1);
        walked(x, 0, 0, 0, 3, 0, NONE, 3, 3, 2);
        walked(x, 0, 0, 0, 4, -103, 3, -103, -103, -103);
        walked(x, 0, 0, 0, 5, -103, 3, -103, -103, -103);
        walked(x, 1, 10, 5, 5, 1, NONE, 2, 3, 0);
        walked(x, 1, 11, 2, 1, 0, NONE, 3, 0, 1);
        walked(x, 1, 11, 2, 2, -101, 1, -101, -101, -101);
        walked(x, 2, 9, 3, 1, 0, NONE, 5, 10, 1);
        walked(x, 2, 10, 3, 1, -100, 0, -100, -100, -100);
        walked(x, 2, 9, 3, 2, 2, NONE, 5, 11, 2);
        row(x, 1, 2, new int[41]);
        due(7, "40 acts, the second wrong", x.walk(0, 0, 1, 2, 1, 40, 1), 1);
        for (int i = 0; i < 41; i++) x.put(1, i, 3);
        due(7, "40 stays, the hour", x.walk(2, 11, 1, 2, 1, 40, 3), 3);
        due(7, "40 stays, the room", x.walk(2, 11, 1, 2, 1, 40, 0), 2);
    }

    private static void walkRefusals() {
        HourDoors x = houseOf("d3;p011;l121;c200");
        row(x, 0, 0, 0, 0, 4, -1, 3);
        due(7, "a cell behind them is no act", x.walk(0, 0, 0, 0, 0, 2, 1), 1);
        due(7, "a later cell is no act", x.walk(0, 0, 0, 0, 0, 3, 1), OUTSIDE);
        due(7, "-1 is no act", x.walk(0, 0, 0, 0, 3, 1, 0), OUTSIDE);
        due(7, "fault", x.fault(), 0);
        due(7, "room 3", x.walk(3, 12, 9, 9, -1, 41, 9), UNKNOWN);
        due(7, "room -1", x.walk(-1, 0, 0, 0, 0, 0, 0), UNKNOWN);
        due(7, "sheet 4", x.walk(0, 12, 4, 9, -1, 41, 9), UNKNOWN);
        due(7, "sheet -1", x.walk(0, 0, -1, 0, 0, 0, 0), UNKNOWN);
        due(7, "hour 12", x.walk(0, 12, 1, 0, -1, 0, 0), OUTSIDE);
        due(7, "hour -1", x.walk(0, -1, 0, 0, 0, 0, 0), OUTSIDE);
        due(7, "lane 3", x.walk(0, 0, 1, 3, 0, 0, 0), OUTSIDE);
        due(7, "lane -1", x.walk(0, 0, 0, -1, 0, 0, 0), OUTSIDE);
        due(7, "n 41", x.walk(0, 0, 1, 0, 0, 41, 0), OUTSIDE);
        due(7, "n -1", x.walk(0, 0, 0, 0, 0, -1, 0), OUTSIDE);
        due(7, "what 5", x.walk(0, 0, 1, 0, 0, 0, 5), OUTSIDE);
        due(7, "what -1", x.walk(0, 0, 0, 0, 0, 0, -1), OUTSIDE);
        due(7, "cast", x.walk(0, 0, 0, 1, -1, 9, 0), CAST);
        due(7, "fault", x.fault(), 2);
        due(7, "null", x.walk(0, 0, 1, 1, -1, 0, 0), NULL);
        due(7, "fault", x.fault(), 1);
        due(7, "index -1", x.walk(0, 0, 0, 0, -1, 0, 0), INDEX);
        due(7, "index 6", x.walk(0, 0, 0, 0, 6, 0, 0), INDEX);
        due(7, "index 5, 1", x.walk(0, 0, 0, 0, 5, 1, 0), INDEX);
        due(7, "index ahead of no act", x.walk(0, 0, 0, 0, 2, 4, 0), INDEX);
        due(7, "index high", x.walk(0, 0, 0, 0, HIGH, 40, 0), INDEX);
        due(7, "fault", x.fault(), 3);
        due(7, "none at the end", x.walk(0, 0, 0, 0, 5, 0, 0), 0);
        due(7, "fault", x.fault(), 0);
    }

    private static void acts(HourDoors x, int from, int to, int hour, int... acts) {
        String call = "soonest(" + from + ", " + to + ", " + hour + ", ";
        due(8, call + "-1)", x.soonest(from, to, hour, -1), acts.length);
        for (int k = 0; k < 24; k++) {
            due(8, call + k + ")", x.soonest(from, to, hour, k), k < acts.length ? acts[k] : NONE);
        }
    }

    private static void soonest() {
        // two ways of two hours from 0 to 3: by 1, or by 2, if its cupboard is not shut then
        HourDoors x = houseOf("d4;p020;p010;p130;c230");
        acts(x, 0, 3, 0, 1, 2);
        acts(x, 0, 3, 2, 0, 3);
        acts(x, 0, 0, 5);
        // the first of two doors that lead on, and of two rooms from which one comes there
        acts(houseOf("d4;p010;p020;p130;p230"), 0, 3, 7, 0, 2);
        acts(houseOf("d4;p230;p130;p010;p020"), 0, 3, 7, 2, 1);
        acts(x, 2, 3, 1, 4, 4, 3);
        acts(x, 2, 3, 9, 3);
        due(8, "by none", x.soonest(3, 0, 0, -1), NONE);
        due(8, "by none, act 0", x.soonest(3, 0, 0, 0), NONE);
        due(8, "by none, act 23", x.soonest(3, 0, 0, 23), NONE);
        due(8, "from 4", x.soonest(4, 0, 12, 24), UNKNOWN);
        due(8, "from -1", x.soonest(-1, 0, 0, 0), UNKNOWN);
        due(8, "to 4", x.soonest(0, 4, 12, 24), UNKNOWN);
        due(8, "to -1", x.soonest(0, -1, 0, 0), UNKNOWN);
        due(8, "hour 12", x.soonest(0, 0, 12, 0), OUTSIDE);
        due(8, "hour -1", x.soonest(0, 0, -1, 0), OUTSIDE);
        due(8, "k 24", x.soonest(0, 0, 0, 24), OUTSIDE);
        due(8, "k -2", x.soonest(0, 0, 0, -2), OUTSIDE);
        // going about beats staying as a row: doors 0 and 1 lead where they are
        acts(houseOf("d2;p000;c010"), 0, 1, 1, 0, 0, 1);
        // each of its doors leads on at 9 alone, and where it is at 3
        acts(houseOf("d5;c031;c141"), 0, 2, 10,
            2, 2, 2, 2, 2, 0, 2, 2, 2, 2, 2, 0, 2, 2, 2, 2, 2, 1, 2, 2, 2, 2, 2, 1);
        due(8, "a cupboard that leads on at 6", houseOf("d6;c005").soonest(0, 1, 1, -1), 6);
    }

    private static void errands() {
        HourDoors x = houseOf("d4;p010;p120;p210;c130");
        due(9, "of no room", x.errands(2, 0, 7), 0);
        due(9, "where one is", x.errands(2, 4, 7), 0);
        due(9, "1 and 2", x.errands(0, 6, 7), 2);
        due(9, "2, then 3, from where none leads", x.errands(0, 12, 1), 6);
        due(9, "all, cupboard at 3", x.errands(0, 15, 0), 4);
        due(9, "all, cupboard at 6", x.errands(0, 15, 1), 6);
        due(9, "no way back to 0", x.errands(1, 1, 0), NONE);
        due(9, "0 and 1 from 1", x.errands(1, 3, 0), NONE);
        due(9, "from 4", x.errands(4, 16, 12), UNKNOWN);
        due(9, "from -1", x.errands(-1, 0, 0), UNKNOWN);
        due(9, "set 16", x.errands(0, 16, 0), OUTSIDE);
        due(9, "set -1", x.errands(0, -1, 0), OUTSIDE);
        due(9, "set low", x.errands(0, LOW, 0), OUTSIDE);
        due(9, "hour 12", x.errands(0, 0, 12), OUTSIDE);
        due(9, "hour -1", x.errands(0, 0, -1), OUTSIDE);
        due(9, "back in 0", houseOf("d2;p100;p010").errands(1, 3, 0), 1);
        HourDoors six = houseOf("d6;p010;p120;p230;p340;p450;p500");
        due(9, "six rooms round", six.errands(3, 63, 4), 5);
        due(9, "all but the last", six.errands(3, 59, 4), 4);
        due(9, "all but the first", six.errands(3, 47, 4), 5);
        due(9, "set 64", six.errands(0, 64, 0), OUTSIDE);
        // there and back by a cupboard each: 0 to k at 0, k to 0 at 3, ..
        HourDoors star = houseOf("d6;c010;c020;c030;c100;c200;c300");
        due(9, "three, there and back", star.errands(0, 14, 0), 13);
        due(9, "two, from the third", star.errands(1, 15, 1), 12);
        due(9, "never 4", star.errands(0, 31, 0), NONE);
    }

    private static void meet() {
        HourDoors x = houseOf("d4;p010;p120;p210;c330");
        due(10, "in one already", x.meet(3, 3, 0), 0);
        due(10, "one goes", x.meet(0, 1, 0), 1);
        due(10, "both go", x.meet(0, 2, 0), 1);
        due(10, "never", x.meet(0, 3, 0), NONE);
        due(10, "a 4", x.meet(4, 0, 12), UNKNOWN);
        due(10, "a -1", x.meet(-1, 0, 0), UNKNOWN);
        due(10, "b 4", x.meet(0, 4, 12), UNKNOWN);
        due(10, "b -1", x.meet(0, -1, 0), UNKNOWN);
        due(10, "hour 12", x.meet(0, 0, 12), OUTSIDE);
        due(10, "hour -1", x.meet(0, 0, -1), OUTSIDE);
        HourDoors halves = houseOf("d5;p010;p120;p430;p320");
        due(10, "half way each", halves.meet(0, 4, 5), 2);
        due(10, "the other way round", halves.meet(4, 0, 5), 2);
        due(10, "a cupboard's hour", houseOf("d2;c010").meet(1, 0, 7), 3);
    }

    private static void cut() {
        HourDoors x = houseOf("d4;p010;p010;p120;p230;l230");
        due(11, "two at first, then one", x.cut(0, 2, 3), 2);
        due(11, "two at first, one, two", x.cut(0, 3, 3), 2);
        due(11, "two", x.cut(0, 1, 0), NONE);
        due(11, "two", x.cut(2, 3, 0), NONE);
        due(11, "to itself", x.cut(3, 3, 0), NONE);
        due(11, "none anyhow", x.cut(3, 0, 0), NONE);
        due(11, "from 4", x.cut(4, 0, 12), UNKNOWN);
        due(11, "from -1", x.cut(-1, 0, 0), UNKNOWN);
        due(11, "to 4", x.cut(0, 4, 12), UNKNOWN);
        due(11, "to -1", x.cut(0, -1, 0), UNKNOWN);
        due(11, "hour 12", x.cut(0, 0, 12), OUTSIDE);
        due(11, "hour -1", x.cut(0, 0, -1), OUTSIDE);
        due(11, "the least of two", houseOf("d3;p120;p010").cut(0, 2, 0), 0);
        due(11, "a longer way is one, too", houseOf("d3;p020;p010;p120").cut(0, 2, 0), NONE);
        due(11, "the doors are as they were", x.soonest(0, 3, 3, -1), 3);
    }

    private static void reach() {
        HourDoors x = houseOf("d4;p010;p120;p200;p300");
        due(12, "none to 3", x.reach(0), 8);
        x.turn(0, 3);
        due(12, "none to 1", x.reach(0), 2);
        HourDoors line = houseOf("d3;p010;p120");
        due(12, "the first alone", line.reach(11), 1);
        HourDoors round = houseOf("d3;p010;p120;p200");
        due(12, "all", round.reach(4), 7);
        due(12, "hour 12", round.reach(12), OUTSIDE);
        due(12, "hour -1", round.reach(-1), OUTSIDE);
        due(12, "no house", new HourDoors().reach(12), STATE);
    }

    /** From 3 to 2 at any hour, from 2 to 1 at 3 alone, from 1 to 4 at 3 alone: 25 hours from 3 at 3. */
    private static void theLongest() {
        HourDoors x = houseOf("d5;l320;c114;c234");
        due(8, "24 hours", x.soonest(3, 4, 4, -1), 24);
        due(8, "the last act of 24", x.soonest(3, 4, 4, 23), 1);
        due(8, "25 hours", x.soonest(3, 4, 3, -1), NONE);
        due(8, "25 hours, act 0", x.soonest(3, 4, 3, 0), NONE);
        due(9, "24 hours", x.errands(3, 30, 4), 24);
        due(9, "25 hours", x.errands(3, 16, 3), NONE);
        due(10, "24 hours", x.meet(3, 4, 4), 24);
        due(10, "25 hours", x.meet(4, 3, 3), NONE);
        due(11, "24 hours", x.cut(3, 4, 4), 0);
        due(11, "25 hours", x.cut(3, 4, 3), NONE);
        due(12, "24 hours", x.reach(4), 2 | 4 | 8);
        due(12, "25 hours", x.reach(3), 2 | 4);
        share(x, 3, 4, 24, 11, 12);
        share(x, 3, 4, 23, 5, 6);
        HourDoors both = houseOf("d5;l320;c114;c234;p340");
        due(11, "24 hours without 3", both.cut(3, 4, 4), NONE);
        due(11, "25 hours without 3", both.cut(3, 4, 3), 3);
    }

    /** Of five rooms a plain door leads elsewhere at 0 than it would at a twelfth hour. */
    private static void roundTheClock() {
        HourDoors x = houseOf("d5;p001");
        row(x, 0, 0, 1, 0);
        due(7, "at 0 it leads to 0", x.walk(0, 11, 0, 0, 0, 2, 0), 0);
        acts(x, 0, 2, 11, 1, 0, 1, 0);
        due(9, "2 at 2", x.errands(0, 4, 11), 4);
        due(10, "2 at 2", x.meet(0, 2, 11), 4);
        due(10, "2 at 2", x.meet(2, 0, 11), 4);
        // from 4 at 4: 0 at 7, 1 at 10, 3 at 10 again, from where one goes to 2 at 4: 25 hours
        HourDoors far = houseOf("d5;c400;c015;c114;p342");
        due(12, "25 hours", far.reach(4), 1 | 2 | 8);
        due(12, "13 hours", houseOf("d5;c312;c414;c210").reach(3), 16);
    }

    private static void behindALargerHouse() {
        HourDoors x = houseOf("d6;p010;p120;p230;p340;p450;p500;p020;p030");
        take(x, "d4;p010");
        due(8, "no way", x.soonest(1, 2, 0, -1), NONE);
        due(8, "one way", x.soonest(0, 1, 0, 0), 0);
        due(9, "no way", x.errands(0, 6, 0), NONE);
        due(10, "no way", x.meet(1, 2, 0), NONE);
        due(11, "one door", x.cut(0, 1, 0), 0);
        due(12, "none", x.reach(0), 0);
        due(18, "no way", x.odds(1, 2, 24, 0), 0);
        take(x, "d2;p100;p010");
        due(12, "two rooms", x.reach(0), 3);
        take(x, "d3;p010;c020;p120");
        acts(x, 0, 2, 2, 0, 2);
        take(x, "d3;p010;c020");
        acts(x, 0, 2, 2, 2, 1);
    }

    private static void reading() {
        HourDoors x = houseOf("d3;p010;c120");
        due(13, "door 2", x.reading(2, 12, 3), UNKNOWN);
        due(13, "door -1", x.reading(-1, 0, 0), UNKNOWN);
        due(13, "room 3", x.reading(0, 12, 3), UNKNOWN);
        due(13, "room -1", x.reading(0, 0, -1), UNKNOWN);
        due(13, "room -2", x.reading(0, 0, -2), UNKNOWN);
        due(13, "hour 12", x.reading(0, 12, 0), OUTSIDE);
        due(13, "hour -1", x.reading(0, -1, NONE), OUTSIDE);
        due(13, "none taken", x.many(2), 0);
        due(13, "shut", x.reading(0, 1, NONE), 0);
        for (int k = 1; k < 8; k++) due(13, "reading " + k, x.reading(0, 11, 2), k);
        due(13, "full", x.reading(0, 0, 0), FULL);
        due(13, "outside ahead of full", x.reading(0, 12, 0), OUTSIDE);
        due(13, "eight", x.many(2), 8);
        due(13, "room ahead of full", x.reading(0, 0, 3), UNKNOWN);
        x.back(1);
        due(13, "numbered by how many", x.reading(1, 0, 2), 7);
    }

    private static void back() {
        HourDoors x = houseOf("d3;p010");
        for (int k = 0; k < 5; k++) x.reading(0, k, k < 2 ? 1 : 2);
        due(14, "none so", x.steps(0), 0);
        due(14, "6", x.back(6), OUTSIDE);
        due(14, "-1", x.back(-1), OUTSIDE);
        due(14, "high", x.back(HIGH), OUTSIDE);
        due(14, "low", x.back(LOW), OUTSIDE);
        due(14, "0", x.back(0), 5);
        due(14, "the last 3", x.back(3), 2);
        due(14, "the first two hold", x.steps(0), 9);
        due(14, "3 of 2", x.back(3), OUTSIDE);
        due(14, "all", x.back(2), 0);
        due(14, "0 of none", x.back(0), 0);
        due(14, "1 of none", x.back(1), OUTSIDE);
    }

    private static void steps() {
        HourDoors x = houseOf("d4;p011;l011;c121");
        due(15, "no readings", x.steps(0), 63);
        x.reading(0, 3, 0);
        due(15, "1 + 3 v is 0 modulo 4", x.steps(0), 2 | 32);
        due(15, "another door", x.steps(1), 63);
        x.reading(1, 3, 3);
        due(15, "1 + 2 v is 3 modulo 4", x.steps(1), 2 | 8 | 32);
        x.reading(2, 4, NONE);
        due(15, "shut by any", x.steps(2), 63);
        x.reading(0, 4, NONE);
        due(15, "never shut", x.steps(0), 0);
        due(15, "another one's reading is not so", x.steps(2), 0);
        due(15, "as it was", x.ofDoor(0, 3), 1);
        due(15, "door 3", x.steps(3), UNKNOWN);
        due(15, "door -1", x.steps(-1), UNKNOWN);
    }

    private static void targets() {
        HourDoors x = houseOf("d5;p013;l011;c120");
        due(16, "no readings", x.targets(0), 31);
        x.reading(0, 3, 0);
        due(16, "v + 9 is 0 modulo 5", x.targets(0), 2);
        x.reading(1, 0, 2);
        due(16, "v + 11 is 2 modulo 5", x.targets(1), 2);
        x.reading(2, 0, 4);
        due(16, "4", x.targets(2), 16);
        due(16, "another one's reading is not so", x.targets(0), 0);
        due(16, "as it was", x.ofDoor(2, 2), 2);
        x.turn(2, 4);
        due(16, "it is so now", x.targets(0), 2);
        due(16, "door 3", x.targets(3), UNKNOWN);
        due(16, "door -1", x.targets(-1), UNKNOWN);
    }

    private static void kinds() {
        HourDoors x = houseOf("d4;p011;c121");
        due(17, "no readings", x.kinds(0), 7);
        x.reading(0, 3, 0);
        due(17, "plain alone", x.kinds(0), 1);
        x.back(1);
        x.reading(0, 3, 3);
        due(17, "as late or a cupboard", x.kinds(0), 6);
        due(17, "it is plain", x.kinds(1), 0);
        x.reading(0, 1, 1);
        due(17, "late alone", x.kinds(0), 2);
        x.back(2);
        x.reading(1, 1, NONE);
        due(17, "a cupboard alone", x.kinds(1), 4);
        x.reading(1, 6, NONE);
        due(17, "no cupboard is shut at 6", x.kinds(1), 0);
        due(17, "as it was", x.ofDoor(1, 0), 2);
        due(17, "door 2", x.kinds(2), UNKNOWN);
        due(17, "door -1", x.kinds(-1), UNKNOWN);
    }

    private static void share(HourDoors x, int from, int to, int n, int upper, int lower) {
        String call = "odds(" + from + ", " + to + ", " + n + ", ";
        due(18, call + "0)", x.odds(from, to, n, 0), upper);
        due(18, call + "1)", x.odds(from, to, n, 1), lower);
    }

    private static void odds() {
        HourDoors x = houseOf("d4;c010;p120;p035");
        share(x, 0, 0, 0, 1, 1);
        share(x, 0, 1, 0, 0, 1);
        share(x, 3, 0, 24, 0, 1);
        share(x, 1, 2, 1, 1, 1);
        // the cupboard to 1 at 0, 3, 6, 9; door 2 to 1 at hours h with (3 + h) % 4 == 1: 2, 6, 10
        share(x, 0, 1, 1, 1, 2);
        share(x, 0, 1, 2, 5, 6);
        share(x, 0, 1, 3, 1, 1);
        HourDoors one = houseOf("d5;l010;c005");
        one.turn(0, 0);
        one.step(0, 5);
        share(one, 0, 1, 24, 0, 1);
        HourDoors cupboard = houseOf("d2;c010");
        share(cupboard, 0, 1, 1, 1, 3);
        share(cupboard, 0, 1, 2, 2, 3);
        share(cupboard, 0, 1, 3, 1, 1);
        due(18, "from 4", x.odds(4, 0, 25, 2), LOST);
        due(18, "from -1", x.odds(-1, 0, 0, 0), LOST);
        due(18, "to 4", x.odds(0, 4, 0, 0), LOST);
        due(18, "to -1", x.odds(0, -1, 0, 0), LOST);
        due(18, "n 25", x.odds(0, 0, 25, 0), LOST);
        due(18, "n -1", x.odds(0, 0, -1, 0), LOST);
        due(18, "which 2", x.odds(0, 0, 0, 2), LOST);
        due(18, "which -1", x.odds(0, 0, 0, -1), LOST);
    }

    private static void sheet() {
        HourDoors x = new HourDoors();
        due(19, "a row", x.sheet(0, 0, 3), 1);
        x.put(0, 2, 7);
        due(19, "a new row", x.sheet(0, 2, 60), 1);
        due(19, "of zeros", x.cell(0, 2, 2), 0);
        due(19, "its last cell", x.cell(0, 59, 2), 0);
        due(19, "no more", x.cell(0, 60, 2), LOST);
        due(19, "61", x.sheet(0, 2, 61), OUTSIDE);
        due(19, "lane 3", x.sheet(0, 3, -1), OUTSIDE);
        due(19, "lane -1", x.sheet(0, -1, 1), OUTSIDE);
        due(19, "sheet 4", x.sheet(4, 3, 61), UNKNOWN);
        due(19, "sheet -1", x.sheet(-1, 0, 1), UNKNOWN);
        due(19, "size", x.sheet(0, 0, -1), SIZE);
        due(19, "fault", x.fault(), 4);
        due(19, "size low", x.sheet(0, 1, LOW), SIZE);
        due(19, "as it was", x.cell(0, 59, 2), 0);
        due(19, "none", x.sheet(3, 1, 0), 1);
        due(19, "of none", x.cell(3, 0, 1), LOST);
        due(19, "index", x.fault(), 3);
    }

    private static void lose() {
        HourDoors x = new HourDoors();
        due(20, "nothing", x.lose(0), 0);
        x.sheet(0, 0, 0);
        due(20, "a row of none", x.lose(0), 1);
        due(20, "nothing again", x.lose(0), 0);
        x.sheet(3, 2, 4);
        due(20, "a row", x.lose(3), 1);
        due(20, "it has nothing", x.put(3, 0, 1), NULL);
        due(20, "sheet 4", x.lose(4), UNKNOWN);
        due(20, "sheet -1", x.lose(-1), UNKNOWN);
        due(20, "it names no fault", x.fault(), 1);
    }

    private static void put() {
        HourDoors x = new HourDoors();
        int[] values = {0, 1, -1, 127, 128, -128, -129, 255, 256, 32767, 32768, -32769, 65535, 65536, HIGH, LOW};
        for (int lane = 0; lane < 3; lane++) {
            x.sheet(lane, lane, 5);
            for (int v : values) {
                due(21, "put " + v, x.put(lane, 4, v), 1);
                int cut = lane == 0 ? (byte) v : lane == 1 ? (short) v : v;
                due(21, "cut to lane " + lane, x.cell(lane, 4, lane), cut);
                due(21, "the one ahead of it", x.cell(lane, 3, lane), 0);
            }
            due(21, "5", x.put(lane, 5, 1), INDEX);
            due(21, "fault", x.fault(), 3);
            due(21, "-1", x.put(lane, -1, 1), INDEX);
            due(21, "high", x.put(lane, HIGH, 1), INDEX);
        }
        due(21, "nothing", x.put(3, -1, 1), NULL);
        due(21, "fault", x.fault(), 1);
        due(21, "sheet 4", x.put(4, 0, 1), UNKNOWN);
        due(21, "sheet -1", x.put(-1, 0, 1), UNKNOWN);
        due(21, "fault", x.fault(), 0);
    }

    private static void cell() {
        HourDoors x = new HourDoors();
        row(x, 1, 1, 5, -6, 70000);
        due(22, "cell 0", x.cell(1, 0, 1), 5);
        due(22, "cell 1", x.cell(1, 1, 1), -6);
        due(22, "cell 2", x.cell(1, 2, 1), 4464);
        due(22, "fault", x.fault(), 0);
        due(22, "cell 3", x.cell(1, 3, 1), LOST);
        due(22, "fault", x.fault(), 3);
        due(22, "cell -1", x.cell(1, -1, 1), LOST);
        due(22, "fault", x.fault(), 3);
        due(22, "as bytes", x.cell(1, -1, 0), LOST);
        due(22, "fault", x.fault(), 2);
        due(22, "lane 3", x.cell(1, 0, 3), LOST);
        due(22, "fault", x.fault(), 0);
        due(22, "nothing", x.cell(0, -1, 1), LOST);
        due(22, "fault", x.fault(), 1);
        due(22, "sheet 4", x.cell(4, 0, 1), LOST);
        due(22, "fault", x.fault(), 0);
        x.cell(0, 0, 0);
        due(22, "lane -1", x.cell(0, 0, -1), LOST);
        due(22, "fault", x.fault(), 0);
    }

    private static void holds(int promise, HourDoors x, int k, int lane, int... cells) {
        for (int i = 0; i < cells.length; i++) due(promise, "cell " + i, x.cell(k, i, lane), cells[i]);
    }

    private static void copy() {
        HourDoors x = new HourDoors();
        row(x, 0, 1, 1, 2, 3, 4, 5);
        row(x, 1, 1, 6, 7, 8);
        row(x, 2, 2, 9, 9, 9);
        due(23, "to another", x.copy(0, 1, 1, 0, 2), 2);
        holds(23, x, 1, 1, 2, 3, 8);
        holds(23, x, 0, 1, 1, 2, 3, 4, 5);
        due(23, "up the same", x.copy(0, 0, 0, 1, 4), 4);
        holds(23, x, 0, 1, 1, 1, 2, 3, 4);
        due(23, "down the same", x.copy(0, 1, 0, 0, 4), 4);
        holds(23, x, 0, 1, 1, 2, 3, 4, 4);
        due(23, "none, at both ends", x.copy(0, 5, 1, 3, 0), 0);
        due(23, "fault", x.fault(), 0);
        due(23, "i 6", x.copy(0, 6, 1, 0, 0), INDEX);
        due(23, "j 4", x.copy(0, 0, 1, 4, 0), INDEX);
        due(23, "i -1", x.copy(0, -1, 1, 0, 1), INDEX);
        due(23, "j -1", x.copy(0, 0, 1, -1, 1), INDEX);
        due(23, "n -1", x.copy(0, 1, 1, 1, -1), INDEX);
        due(23, "beyond the first", x.copy(1, 1, 0, 0, 3), INDEX);
        due(23, "beyond the other", x.copy(0, 0, 1, 0, 4), INDEX);
        due(23, "high", x.copy(0, 1, 1, 1, HIGH), INDEX);
        due(23, "high i", x.copy(0, HIGH, 1, HIGH, HIGH), INDEX);
        due(23, "fault", x.fault(), 3);
        holds(23, x, 1, 1, 2, 3, 8);
        due(23, "cast", x.copy(0, -1, 2, 0, 0), CAST);
        due(23, "fault", x.fault(), 2);
        due(23, "the first has nothing", x.copy(3, -1, 0, 0, 0), NULL);
        due(23, "the other has nothing", x.copy(0, -1, 3, 0, 0), NULL);
        due(23, "fault", x.fault(), 1);
        due(23, "sheet 4", x.copy(4, 0, 3, 0, 0), UNKNOWN);
        due(23, "fault", x.fault(), 0);
        due(23, "other 4", x.copy(3, 0, 4, 0, 0), UNKNOWN);
        due(23, "sheet -1", x.copy(-1, 0, 0, 0, 0), UNKNOWN);
        due(23, "other -1", x.copy(0, 0, -1, 0, 0), UNKNOWN);
        x.lose(2);
        x.sheet(2, 1, 1);
        due(23, "of a lane like it now", x.copy(0, 4, 2, 0, 1), 1);
        holds(23, x, 2, 1, 4);
    }

    private static void tell() {
        HourDoors x = houseOf("d2;c013;l104;p015");
        due(24, "plain", x.tell(2), 5);
        due(24, "trace", x.trace(), 1);
        due(24, "late", x.tell(1), 104);
        due(24, "trace", x.trace(), traceOf(1, 2, 1));
        due(24, "cupboard", x.tell(0), 106);
        due(24, "trace", x.trace(), traceOf(1, 2, 1, 3, 2, 1, 1));
        x.step(0, 5);
        due(24, "as its step is now", x.tell(0), 110);
        int trace = x.trace();
        due(24, "door 3", x.tell(3), UNKNOWN);
        due(24, "door -1", x.tell(-1), UNKNOWN);
        due(24, "trace is as it was", x.trace(), trace);
    }

    private static void knock() {
        HourDoors x = houseOf("d2;c013;l104;p015;c000;l010");
        due(25, "plain", x.knock(2), 2);
        due(25, "trace", x.trace(), 4);
        due(25, "cupboard", x.knock(0), 60);
        due(25, "trace", x.trace(), traceOf(4, 5));
        due(25, "late", x.knock(1), 1);
        due(25, "cupboard", x.knock(3), 60);
        due(25, "late", x.knock(4), 4);
        due(25, "trace", x.trace(), traceOf(4, 5, 4, 5, 4));
        due(25, "door 5", x.knock(5), UNKNOWN);
        due(25, "door -1", x.knock(-1), UNKNOWN);
        due(25, "trace is as it was", x.trace(), traceOf(4, 5, 4, 5, 4));
    }

    private static void as() {
        HourDoors x = houseOf("d2;p000;l000;c000");
        for (int d = 0; d < 3; d++) {
            for (int kind = 0; kind < 3; kind++) {
                due(26, "as(" + d + ", " + kind + ")", x.as(d, kind), kind <= d ? 1 : CAST);
                due(26, "fault", x.fault(), kind <= d ? 0 : 2);
            }
        }
        x.as(0, 1);
        due(26, "kind 3", x.as(0, 3), OUTSIDE);
        due(26, "fault", x.fault(), 0);
        due(26, "kind -1", x.as(0, -1), OUTSIDE);
        due(26, "door 3", x.as(3, 3), UNKNOWN);
        due(26, "door -1", x.as(-1, 0), UNKNOWN);
        due(26, "trace", x.trace(), 0);
    }

    private static void trace() {
        HourDoors x = houseOf("d2;p000;c000");
        int trace = 0;
        for (int k = 0; k < 20; k++) {
            x.knock(1);
            trace = 31 * trace + 5;
            due(27, "trace", x.trace(), trace);
        }
        take(x, "d2;p000");
        due(27, "a house is no telling", x.trace(), trace);
    }

    private static void fault() {
        HourDoors x = houseOf("d2;p000");
        x.put(0, 0, 0);
        due(28, "put", x.fault(), 1);
        due(28, "asked again", x.fault(), 1);
        x.leads(9, 0);
        x.tell(0);
        x.knock(9);
        x.many(9);
        x.lose(9);
        x.reading(9, 0, 0);
        x.odds(9, 0, 0, 0);
        x.soonest(9, 0, 0, 0);
        due(28, "calls that name none leave it", x.fault(), 1);
        x.sheet(9, 0, 0);
        due(28, "refused", x.fault(), 0);
        x.as(0, 2);
        due(28, "as", x.fault(), 2);
        x.walk(9, 0, 0, 0, 0, 0, 0);
        due(28, "refused", x.fault(), 0);
        x.sheet(0, 0, -1);
        due(28, "sheet", x.fault(), 4);
        x.house(9, 0, 0, 0);
        due(28, "refused", x.fault(), 0);
        x.house(0, 0, 0, 0);
        due(28, "house", x.fault(), 1);
        x.sheet(0, 0, 1);
        due(28, "none", x.fault(), 0);
        x.copy(0, 0, 0, 0, 2);
        due(28, "copy", x.fault(), 3);
        x.house(0, 0, 0, 1);
        due(28, "a text's fault is none", x.fault(), 0);
        x.copy(0, 0, 0, 0, 2);
        x.put(9, 0, 0);
        due(28, "refused", x.fault(), 0);
        x.copy(0, 0, 0, 0, 2);
        x.as(0, 0);
        due(28, "none", x.fault(), 0);
    }

    private static void many() {
        HourDoors x = houseOf("d5;p000;c123;l444");
        x.reading(0, 0, 0);
        x.reading(0, 0, 0);
        due(29, "doors", x.many(0), 3);
        due(29, "rooms", x.many(1), 5);
        due(29, "readings", x.many(2), 2);
        due(29, "3", x.many(3), OUTSIDE);
        due(29, "-1", x.many(-1), OUTSIDE);
        take(x, "d2;p000");
        due(29, "doors", x.many(0), 1);
        due(29, "rooms", x.many(1), 2);
        due(29, "readings", x.many(2), 0);
    }
}
