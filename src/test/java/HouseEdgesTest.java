/** The edges of promises 1 to 6, and of the terms' first part: each sentence has a test of its own. */
public final class HouseEdgesTest extends EdgeKit {
    private static final String EIGHT = "d6;p012;l123;c234;p345;l450;c501;p215;l340";

    public static void main(String[] args) {
        aNewObjectHasNoHouse();
        aNewObjectsSheetsHaveNothing();
        fromTwoToSixRooms();
        oneToEightDoors();
        itsLetter();
        itsRoomIsThere();
        whereItLeadsIsThere();
        stepsToFive();
        firstWrongCode();
        ninthDoor();
        endsTooSoon();
        codesAreWhole();
        makesAllAnew();
        houseUnknown();
        houseOutside();
        houseCast();
        houseNull();
        houseSize();
        houseIndex();
        houseTextsFault();
        houseOrder();
        ofDoorUnknown();
        ofDoorOutside();
        leadsModuloRooms();
        leadsLateAtZero();
        leadsShut();
        leadsUnknown();
        leadsOutside();
        stepTaken();
        stepUnknown();
        stepOutside();
        turnTaken();
        turnUnknown();
        end();
    }

    // ---- promise 1

    private static void aNewObjectHasNoHouse() {
        on(1, "No HOUSE (no ROOMS, DOORS)");
        refuses("ofDoor", UNKNOWN, HourDoors::new, x -> x.ofDoor(0, 0));
        refuses("leads", UNKNOWN, HourDoors::new, x -> x.leads(0, 0));
        refuses("step", UNKNOWN, HourDoors::new, x -> x.step(0, 0));
        refuses("turn", UNKNOWN, HourDoors::new, x -> x.turn(0, 0));
        refuses("soonest", UNKNOWN, HourDoors::new, x -> x.soonest(0, 0, 0, -1));
        refuses("errands", UNKNOWN, HourDoors::new, x -> x.errands(0, 0, 0));
        refuses("meet", UNKNOWN, HourDoors::new, x -> x.meet(0, 0, 0));
        refuses("cut", UNKNOWN, HourDoors::new, x -> x.cut(0, 0, 0));
        refuses("reach", STATE, HourDoors::new, x -> x.reach(0));
        refuses("reading", UNKNOWN, HourDoors::new, x -> x.reading(0, 0, NONE));
        refuses("steps", UNKNOWN, HourDoors::new, x -> x.steps(0));
        refuses("targets", UNKNOWN, HourDoors::new, x -> x.targets(0));
        refuses("kinds", UNKNOWN, HourDoors::new, x -> x.kinds(0));
        refuses("odds", LOST, HourDoors::new, x -> x.odds(0, 0, 0, 0));
        refuses("tell", UNKNOWN, HourDoors::new, x -> x.tell(0));
        refuses("knock", UNKNOWN, HourDoors::new, x -> x.knock(0));
        HourDoors x = new HourDoors();
        x.sheet(0, 0, 1);
        due("walk", x.walk(0, 0, 0, 0, 0, 1, 0), UNKNOWN);
        due("as", x.as(0, 0), UNKNOWN);
        for (int what = 0; what < 3; what++) due("many(" + what + ")", x.many(what), 0);
    }

    private static void aNewObjectsSheetsHaveNothing() {
        on(1, "SHEETS have nothing");
        for (int k = 0; k < 4; k++) {
            int sheet = k;
            due("lose " + k, new HourDoors().lose(k), 0);
            faults("put " + k, NULL, HourDoors::new, x -> x.put(sheet, 0, 0));
            faults("house " + k, NULL, HourDoors::new, x -> x.house(sheet, 0, 0, 0));
            faults("copy " + k, NULL, HourDoors::new, x -> x.copy(sheet, 0, sheet, 0, 0));
            HourDoors x = new HourDoors();
            due("cell of " + k, x.cell(k, 0, 0), LOST);
            due("then fault()", x.fault(), 1);
        }
    }

    // ---- promise 2: the text

    /** Each code in place of one of a text: whether the text is taken with it. */
    private static void codesAt(String text, int place, String good) {
        for (int code = -300; code <= 600; code++) {
            boolean taken = code >= 0 && good.indexOf(code) >= 0;
            due("code " + code + " at " + place + " of " + text, with(text, place, code), taken ? 1 : -100 - place);
        }
        due("the least code", with(text, place, LOW), -100 - place);
        due("the greatest code", with(text, place, HIGH), -100 - place);
    }

    private static int with(String text, int place, int code) {
        HourDoors x = new HourDoors();
        write(x, 0, 2, 0, text, 0);
        x.put(0, place, code);
        return x.house(0, 2, 0, text.length());
    }

    private static int taken(String text) {
        return take(new HourDoors(), text);
    }

    private static void fromTwoToSixRooms() {
        on(2, "d, a digit 2 .. 6 (ROOMS, numbered from 0 on)");
        codesAt("d2;p000", 0, "d");
        codesAt("d2;p000", 1, "23456");
        for (int rooms = 2; rooms <= 6; rooms++) {
            HourDoors x = houseOf("d" + rooms + ";p000");
            due("how many rooms", x.many(1), rooms);
            due("room 0", x.turn(0, 0), 0);
            due("the last room", x.turn(0, rooms - 1), 0);
            due("no room", x.turn(0, rooms), UNKNOWN);
        }
    }

    private static void oneToEightDoors() {
        on(2, "then 1 to 8 DOORS, numbered from 0 on");
        due("no door", taken("d6"), -102);
        codesAt("d2;p000", 2, ";");
        for (int doors = 1; doors <= 8; doors++) {
            HourDoors x = new HourDoors();
            due(doors + " doors", take(x, EIGHT.substring(0, 2 + 5 * doors)), doors);
            due("how many doors", x.many(0), doors);
            due("door 0", x.ofDoor(0, 1), 0);
            due("the last door", x.ofDoor(doors - 1, 1), EIGHT.charAt(5 * doors - 1) - '0');
            due("no door", x.ofDoor(doors, 1), UNKNOWN);
        }
        due("9 doors", taken(EIGHT + ";p000"), -142);
    }

    private static void itsLetter() {
        on(2, "Kinds: 0 PLAIN (p); 1 LATE (l), a PLAIN; 2 CUPBOARD (c), a LATE.");
        codesAt("d2;p000", 3, "plc");
        for (int kind = 0; kind < 3; kind++) {
            HourDoors x = houseOf("d2;" + "plc".charAt(kind) + "000");
            due("its kind", x.ofDoor(0, 0), kind);
            for (int as = 0; as < 3; as++) due(kind + " as " + as, x.as(0, as), as <= kind ? 1 : CAST);
        }
    }

    private static void itsRoomIsThere() {
        on(2, "a digit (the ROOM in which it is, one that there is)");
        for (int rooms = 2; rooms <= 6; rooms++) {
            codesAt("d" + rooms + ";p000", 4, "012345".substring(0, rooms));
            due("the last room", houseOf("d" + rooms + ";p" + (rooms - 1) + "00").ofDoor(0, 1), rooms - 1);
        }
    }

    private static void whereItLeadsIsThere() {
        on(2, "a digit (the ROOM to which it leads at hour 0, one that there is: TO)");
        for (int rooms = 2; rooms <= 6; rooms++) {
            codesAt("d" + rooms + ";p000", 5, "012345".substring(0, rooms));
            due("the last room", houseOf("d" + rooms + ";p0" + (rooms - 1) + "0").ofDoor(0, 2), rooms - 1);
        }
    }

    private static void stepsToFive() {
        on(2, "a digit 0 .. 5 (STEP)");
        codesAt("d2;p000", 6, "012345");
        codesAt("d6;c550", 6, "012345");
        for (int step = 0; step <= 5; step++) due("step", houseOf("d2;l01" + step).ofDoor(0, 3), step);
    }

    private static void firstWrongCode() {
        on(2, "FIRST FAULT: the place (from 0 on) of the first code with which no TEXT goes on");
        for (int place = 0; place < EIGHT.length(); place++) {
            String wrong = EIGHT.substring(0, place) + "x" + EIGHT.substring(place + 1);
            due("wrong at " + place, taken(wrong), -100 - place);
            due("wrong from " + place + " on", taken(EIGHT.substring(0, place) + "x".repeat(60 - place)), -100 - place);
            due("wrong at " + place + " ahead of the end", taken(wrong.substring(0, place + 1)), -100 - place);
        }
        HourDoors x = new HourDoors();
        write(x, 0, 1, 9, "d2;q000", 1);
        due("places are those of the text, not of the sheet", x.house(0, 1, 9, 7), -103);
    }

    private static void ninthDoor() {
        on(2, "(the ; of a ninth DOOR)");
        due("a ninth door", taken(EIGHT + ";p000"), -142);
        due("its ; alone", taken(EIGHT + ";"), -142);
        due("a ninth door that has no end", taken(EIGHT + ";p0"), -142);
        due("a ninth door that is wrong", taken(EIGHT + ";x999"), -142);
        due("60 codes", taken(EIGHT + ";p000;p000;p000;p0"), -142);
        due("another code", taken(EIGHT + "p"), -142);
        due("eight", taken(EIGHT), 8);
    }

    private static void endsTooSoon() {
        on(2, "how many codes there are, if it just ends too soon");
        for (int n = 0; n <= EIGHT.length(); n++) {
            boolean whole = n >= 7 && n % 5 == 2;
            due(n + " codes", taken(EIGHT.substring(0, n)), whole ? (n - 2) / 5 : -100 - n);
        }
        HourDoors x = new HourDoors();
        write(x, 0, 0, 0, EIGHT, 0);
        due("no codes at the sheet's end", x.house(0, 0, 42, 0), -100);
        due("codes behind those told do not count", x.house(0, 0, 0, 6), -106);
        due("no fault of the machine", x.fault(), 0);
    }

    private static void codesAreWhole() {
        on(2, "(Codes: d 100, p 112, l 108, c 99, ; 59, digits 48 .. 57.)");
        int[] codes = {100, 50, 59, 112, 48, 49, 48, 59, 108, 49, 48, 53, 59, 99, 48, 48, 51};
        for (int lane = 0; lane < 3; lane++) {
            HourDoors x = new HourDoors();
            row(x, 0, lane, codes);
            due("the codes as numbers", x.house(0, lane, 0, 17), 3);
        }
        int[] wraps = {256, 65536};
        for (int lane = 0; lane < 3; lane++) {
            for (int w = 0; w < 2; w++) {
                HourDoors x = new HourDoors();
                row(x, 0, lane, codes);
                x.put(0, 0, 100 + wraps[w]);
                due("100 and " + wraps[w] + " in lane " + lane, x.house(0, lane, 0, 17), lane <= w ? 3 : -100);
            }
        }
    }

    private static void makesAllAnew() {
        on(2, "A TEXT that is taken makes all anew: no READINGS.");
        HourDoors x = houseOf("d6;p012;l123;c234");
        x.step(0, 5);
        x.turn(0, 4);
        for (int k = 0; k < 8; k++) x.reading(0, 1, NONE);
        due("full", x.reading(0, 1, NONE), FULL);
        due("again", x.house(3, 2, 0, 17), 3);
        due("no readings", x.many(2), 0);
        due("none that hold", x.steps(0), 63);
        due("the step that is told", x.ofDoor(0, 3), 2);
        due("to as it is told", x.ofDoor(0, 2), 1);
        due("readings from 0 on", x.reading(0, 1, 3), 0);
        due("fewer doors", x.house(3, 2, 0, 7), 1);
        due("no readings", x.back(1), OUTSIDE);
        due("one door", x.many(0), 1);
        due("no second door", x.leads(1, 0), UNKNOWN);
        due("fewer rooms", take(x, "d2;p010"), 1);
        due("two rooms", x.many(1), 2);
        due("no third room", x.soonest(2, 2, 0, -1), UNKNOWN);
        due("more of both", take(x, "d5;p040;p410"), 2);
        due("the fifth room", x.soonest(4, 1, 0, -1), 1);
        HourDoors fewer = houseOf("d6;p010;p120;p230;p340;p450;p500;p020;p030");
        due("a door for eight", take(fewer, "d4;p010"), 1);
        due("none leads on any more: soonest", fewer.soonest(1, 2, 0, -1), NONE);
        due("errands", fewer.errands(0, 6, 0), NONE);
        due("meet", fewer.meet(1, 2, 0), NONE);
        due("cut", fewer.cut(0, 1, 0), 0);
        due("reach", fewer.reach(0), 0);
        due("odds", fewer.odds(1, 2, 24, 0), 0);
        due("a door for one that leads there", take(fewer, "d3;p010;c020;p120"), 3);
        due("by it", fewer.soonest(0, 2, 2, 0), 0);
        due("without it", take(fewer, "d3;p010;c020"), 2);
        due("one stays, as it leads there no more", fewer.soonest(0, 2, 2, 0), 2);
    }

    // ---- promise 2: the call

    private static void houseUnknown() {
        on(2, "UNKNOWN");
        for (int k : beside(0, 3)) refusesByName("sheet " + k, UNKNOWN, x -> x.house(k, 0, 0, 17));
        for (int k = 0; k < 4; k++) {
            HourDoors x = new HourDoors();
            write(x, k, 1, 0, "d2;p000", 0);
            due("sheet " + k, x.house(k, 1, 0, 7), 1);
        }
    }

    private static void houseOutside() {
        on(2, "OUTSIDE: lane");
        for (int lane : beside(0, 2)) refusesByName("lane " + lane, OUTSIDE, x -> x.house(0, lane, 0, 17));
        for (int lane : beside(0, 2)) refusesByName("lane " + lane + ", nothing", OUTSIDE, x -> x.house(3, lane, 0, 0));
    }

    private static void houseCast() {
        on(2, "CAST (nothing is no CAST)");
        for (int k = 0; k < 3; k++) {
            for (int lane = 0; lane < 3; lane++) {
                int sheet = k;
                int as = lane;
                if (k != lane) faults("sheet " + k + " as " + lane, CAST, x -> x.house(sheet, as, 0, 0));
                if (k == lane) due("sheet " + k + " as " + lane, furnished().house(k, lane, 0, 0), -100);
                faults("nothing as " + lane, NULL, x -> x.house(3, as, 0, 0));
            }
        }
    }

    private static void houseNull() {
        on(2, "NULL");
        faults("nothing", NULL, x -> x.house(3, 0, 0, 7));
        faults("nothing any more", NULL, x -> {
            x.sheet(3, 0, 7);
            x.lose(3);
            return x.house(3, 0, 0, 7);
        });
        HourDoors x = new HourDoors();
        x.sheet(0, 0, 0);
        due("a row of none is not nothing", x.house(0, 0, 0, 0), -100);
    }

    private static void houseSize() {
        on(2, "SIZE: n below 0");
        for (int n : new int[] {-1, -2, -60, LOW, LOW + 1}) faults("n " + n, SIZE, x -> x.house(0, 0, 0, n));
        due("n 0", furnished().house(0, 0, 0, 0), -100);
    }

    private static void houseIndex() {
        on(2, "INDEX (of cells from i on also where i is not 0 .. how many there are, if none of them is taken, too)");
        for (int i = -2; i <= 7; i++) {
            for (int n = 0; n <= 8; n++) {
                int from = i;
                int many = n;
                boolean there = i >= 0 && i <= 5 && i + n <= 5;
                String call = n + " of 5 cells from " + i + " on";
                if (there) due(call, furnished().house(1, 1, i, n), -100);
                else faults(call, INDEX, x -> x.house(1, 1, from, many));
            }
        }
        for (int i : new int[] {LOW, LOW + 1, HIGH - 1, HIGH}) {
            for (int n : new int[] {0, 1, 5, HIGH}) faults(n + " from " + i + " on", INDEX, x -> x.house(1, 1, i, n));
        }
        for (int i = 0; i <= 5; i++) {
            int from = i;
            faults("all there could be from " + i + " on", INDEX, x -> x.house(1, 1, from, HIGH));
        }
    }

    private static void houseTextsFault() {
        on(2, "-100 less it");
        for (int place = 0; place < 17; place++) {
            int at = place;
            // what the sheet has is told too, so it gets its code back
            refusesByName("a wrong code at " + place, -100 - place, x -> {
                long was = x.cell(0, at, 0);
                x.put(0, at, 'x');
                int answer = x.house(0, 0, 0, 17);
                x.put(0, at, (int) was);
                return answer;
            });
        }
        for (int n = 0; n < 7; n++) {
            int codes = n;
            refusesByName(n + " codes", -100 - n, x -> x.house(0, 0, 0, codes));
        }
        refusesByName("16 codes, two doors taken with 12", -116, x -> x.house(0, 0, 0, 16));
    }

    private static void houseOrder() {
        on(2, "UNKNOWN; OUTSIDE: lane; CAST (nothing is no CAST); NULL; SIZE: n below 0; INDEX; -100 less it.");
        refusesByName("all wrong", UNKNOWN, x -> x.house(4, 3, -1, -1));
        refusesByName("lane, nothing, size, index", OUTSIDE, x -> x.house(3, 3, -1, -1));
        refusesByName("lane, cast, size, index", OUTSIDE, x -> x.house(0, 3, -1, -1));
        faults("cast, size, index", CAST, x -> x.house(0, 1, -1, -1));
        faults("nothing, size, index", NULL, x -> x.house(3, 1, -1, -1));
        faults("size, index", SIZE, x -> x.house(1, 1, -1, -1));
        faults("size, index", SIZE, x -> x.house(1, 1, 6, -1));
        faults("index, a wrong code", INDEX, x -> x.house(1, 1, 0, 6));
    }

    // ---- promise 3

    private static void ofDoorUnknown() {
        on(3, "Of a DOOR: .. UNKNOWN");
        for (int d : beside(0, 2)) {
            refuses("door " + d, UNKNOWN, x -> x.ofDoor(d, 0));
            refuses("door " + d + ", what too", UNKNOWN, x -> x.ofDoor(d, 4));
        }
        due("door 0", furnished().ofDoor(0, 0), 0);
        due("door 2", furnished().ofDoor(2, 0), 2);
        due("door 7 of 8", houseOf(EIGHT).ofDoor(7, 2), 4);
        due("door 8 of 8", houseOf(EIGHT).ofDoor(8, 2), UNKNOWN);
    }

    private static void ofDoorOutside() {
        on(3, "0 kind, 1 the ROOM in which it is, 2 TO, 3 STEP. .. OUTSIDE");
        for (int what : beside(0, 3)) refuses("what " + what, OUTSIDE, x -> x.ofDoor(1, what));
        int[] late = {1, 1, 2, 3};
        for (int what = 0; what < 4; what++) due("what " + what, furnished().ofDoor(1, what), late[what]);
    }

    // ---- promise 4

    private static void leadsModuloRooms() {
        on(4, "A PLAIN DOOR leads at an HOUR to the ROOM of number TO and STEP times the HOUR, all that modulo ROOMS");
        for (int rooms = 2; rooms <= 6; rooms++) {
            for (int step = 0; step <= 5; step++) {
                HourDoors x = houseOf("d" + rooms + ";p0" + (rooms - 1) + step);
                for (int hour = 0; hour < 12; hour++) {
                    due(rooms + " rooms, step " + step, x.leads(0, hour), (rooms - 1 + step * hour) % rooms);
                }
            }
        }
        due("5 and 5 times 11 of 6", houseOf("d6;p055").leads(0, 11), 0);
        due("1 and 1 times 1 of 2", houseOf("d2;p011").leads(0, 1), 0);
    }

    private static void leadsLateAtZero() {
        on(4, "a LATE one as a PLAIN like it an HOUR ahead of that (at 0 as at 11)");
        HourDoors x = houseOf("d5;l001;c001;p001;l042");
        due("at 0 as at 11", x.leads(0, 0), 1);
        due("at 0 as at 11, a cupboard", x.leads(1, 0), 1);
        due("at 1 as at 0", x.leads(0, 1), 0);
        due("at 11 as at 10", x.leads(0, 11), 0);
        due("4 and 2 times 11 of 5", x.leads(3, 0), 1);
        for (int hour = 1; hour < 12; hour++) due("at " + hour, x.leads(0, hour), x.leads(2, hour - 1));
    }

    private static void leadsShut() {
        on(4, "a CUPBOARD as a LATE like it, but is shut at HOURS that 3 does not divide. .. NONE: it is shut.");
        HourDoors x = houseOf("d5;c023;l023");
        for (int hour = 0; hour < 12; hour++) {
            boolean open = hour == 0 || hour == 3 || hour == 6 || hour == 9;
            due("at " + hour, x.leads(0, hour), open ? x.leads(1, hour) : NONE);
        }
        due("at 0", x.leads(0, 0), 0);
        due("at 9", x.leads(0, 9), 1);
        for (int hour = 0; hour < 12; hour++) {
            due("a LATE one is never shut", x.leads(1, hour), (2 + 3 * ((hour + 11) % 12)) % 5);
        }
    }

    private static void leadsUnknown() {
        on(4, "To which ROOM a DOOR leads .. UNKNOWN");
        for (int d : beside(0, 2)) {
            refuses("door " + d, UNKNOWN, x -> x.leads(d, 0));
            refuses("door " + d + ", hour too", UNKNOWN, x -> x.leads(d, 12));
        }
        due("door 2", furnished().leads(2, 0), 3);
    }

    private static void leadsOutside() {
        on(4, "at an HOUR (0 .. 11) .. OUTSIDE");
        for (int hour : beside(0, 11)) {
            refuses("hour " + hour, OUTSIDE, x -> x.leads(0, hour));
            refuses("hour " + hour + ", a cupboard", OUTSIDE, x -> x.leads(2, hour));
        }
        due("hour 0", furnished().leads(0, 0), 1);
        due("hour 11", furnished().leads(0, 11), 0);
    }

    // ---- promise 5

    private static void stepTaken() {
        on(5, "STEP of a DOOR becomes v (0 .. 5): what it was.");
        HourDoors x = furnished();
        due("least", x.step(1, 0), 3);
        due("is least", x.ofDoor(1, 3), 0);
        due("leads", x.leads(1, 5), 2);
        due("greatest", x.step(1, 5), 0);
        due("is greatest", x.ofDoor(1, 3), 5);
        due("leads", x.leads(1, 0), (2 + 5 * 11) % 4);
        due("as it is already", x.step(1, 5), 5);
        due("the door ahead", x.ofDoor(0, 3), 1);
        due("the door behind", x.ofDoor(2, 3), 0);
    }

    private static void stepUnknown() {
        on(5, "STEP of a DOOR .. UNKNOWN");
        for (int d : beside(0, 2)) {
            refuses("door " + d, UNKNOWN, x -> x.step(d, 4));
            refuses("door " + d + ", step too", UNKNOWN, x -> x.step(d, 6));
        }
    }

    private static void stepOutside() {
        on(5, "becomes v (0 .. 5) .. OUTSIDE");
        for (int v : beside(0, 5)) {
            for (int d = 0; d < 3; d++) {
                int door = d;
                refuses("step " + v, OUTSIDE, x -> x.step(door, v));
            }
        }
    }

    // ---- promise 6

    private static void turnTaken() {
        on(6, "TO of a DOOR becomes a ROOM: what it was.");
        HourDoors x = furnished();
        due("the first room", x.turn(1, 0), 2);
        due("is the first", x.ofDoor(1, 2), 0);
        due("leads", x.leads(1, 1), 0);
        due("the last room", x.turn(1, 3), 0);
        due("is the last", x.ofDoor(1, 2), 3);
        due("as it is already", x.turn(1, 3), 3);
        due("the room in which it is", x.turn(1, 1), 3);
        due("it is where it was", x.ofDoor(1, 1), 1);
        due("the door ahead", x.ofDoor(0, 2), 1);
        due("the door behind", x.ofDoor(2, 2), 3);
    }

    private static void turnUnknown() {
        on(6, "UNKNOWN: DOOR, ROOM.");
        for (int d : beside(0, 2)) refuses("door " + d, UNKNOWN, x -> x.turn(d, 1));
        for (int room : beside(0, 3)) {
            for (int d = 0; d < 3; d++) {
                int door = d;
                refuses("room " + room, UNKNOWN, x -> x.turn(door, room));
            }
        }
        refuses("a shut door is no room", UNKNOWN, x -> x.turn(0, NONE));
        refuses("both", UNKNOWN, x -> x.turn(3, 4));
    }
}
