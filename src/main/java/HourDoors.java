import java.util.Arrays;

/**
 * A house each of whose doors leads elsewhere as the clock goes round. The
 * promises in ../shared/DOC.md say what every call answers; README.md tells
 * how to use it.
 */
public final class HourDoors {
    public static final int UNKNOWN = -1, OUTSIDE = -2, STATE = -3, FULL = -4, NONE = -9;
    public static final long LOST = Long.MIN_VALUE;

    private static final int NULL_FAULT = 1, CAST_FAULT = 2, INDEX_FAULT = 3, SIZE_FAULT = 4;
    private static final int PLAIN = 0, LATE = 1, CUPBOARD = 2, KINDS = 3;
    private static final int HOURS = 12, MOST_HOURS = 24;
    private static final int MOST_ROOMS = 6, MOST_DOORS = 8, MOST_STEP = 5;
    private static final int MOST_READINGS = 8, MOST_ACTS = 40;
    private static final int SHEETS = 4, LANES = 3, MOST_CELLS = 60;
    private static final int HEAD_CODES = 2, DOOR_CODES = 5;

    /**
     * Bit s of number r is set where the set s has room r. A long thus holds
     * a choice out of all 64 sets of rooms, and errands needs no more than
     * one long for each room in which one may be.
     */
    private static final long[] SETS_WITH = {
        0xAAAAAAAAAAAAAAAAL, 0xCCCCCCCCCCCCCCCCL, 0xF0F0F0F0F0F0F0F0L,
        0xFF00FF00FF00FF00L, 0xFFFF0000FFFF0000L, 0xFFFFFFFF00000000L
    };

    private int rooms;
    private int doorCount;
    private final Door[] doors;
    /** Stands in for a door of which one number is tried out. */
    private final Door trial;
    private int readingCount;
    private final int[] readDoor;
    private final int[] readHour;
    private final int[] readRoom;
    private final Sheet[] sheets;
    private int left;
    private int latestFault;
    /** At t, from 1 on: the rooms from which, t hours on, one still comes in time. */
    private final int[] hopeful;
    /** Of each room: the sets of rooms that one who is there can have seen. */
    private final long[] seen;
    private final long[] seenNext;

    public HourDoors() {
        doors = new Door[MOST_DOORS];
        for (int d = 0; d < MOST_DOORS; d++) {
            doors[d] = new Door();
        }
        trial = new Door();
        readDoor = new int[MOST_READINGS];
        readHour = new int[MOST_READINGS];
        readRoom = new int[MOST_READINGS];
        sheets = new Sheet[SHEETS];
        for (int k = 0; k < SHEETS; k++) {
            sheets[k] = new Sheet();
        }
        hopeful = new int[MOST_HOURS + 1];
        seen = new long[MOST_ROOMS];
        seenNext = new long[MOST_ROOMS];
    }

    // ---- 1 the house

    public int house(int sheet, int lane, int i, int n) {
        latestFault = 0;
        if (!isSheet(sheet)) return UNKNOWN;
        if (!isLane(lane)) return OUTSIDE;
        Sheet text = sheets[sheet];
        int fault = text.faultOfTaking(lane, i, n);
        if (fault != 0) return faulted(fault);
        int wrong = firstFault(text, i, n);
        if (wrong != NONE) return -100 - wrong;
        build(text, i, n);
        return doorCount;
    }

    public int ofDoor(int d, int what) {
        if (!isDoor(d)) return UNKNOWN;
        switch (what) {
            case 0: return doors[d].kind;
            case 1: return doors[d].room;
            case 2: return doors[d].to;
            case 3: return doors[d].step;
            default: return OUTSIDE;
        }
    }

    public int leads(int d, int hour) {
        if (!isDoor(d)) return UNKNOWN;
        if (!isHour(hour)) return OUTSIDE;
        return doors[d].leadsTo(hour, rooms);
    }

    public int step(int d, int v) {
        if (!isDoor(d)) return UNKNOWN;
        if (v < 0 || v > MOST_STEP) return OUTSIDE;
        int was = doors[d].step;
        doors[d].step = v;
        return was;
    }

    public int turn(int d, int room) {
        if (!isDoor(d) || !isRoom(room)) return UNKNOWN;
        int was = doors[d].to;
        doors[d].to = room;
        return was;
    }

    // ---- 2 walks

    public int walk(int room, int hour, int sheet, int lane, int i, int n, int what) {
        latestFault = 0;
        if (!isRoom(room) || !isSheet(sheet)) return UNKNOWN;
        if (!isHour(hour) || !isLane(lane)) return OUTSIDE;
        if (n < 0 || n > MOST_ACTS || what < 0 || what > 4) return OUTSIDE;
        Sheet row = sheets[sheet];
        int fault = row.faultOfTaking(lane, i, n);
        if (fault != 0) return faulted(fault);
        if (!areActs(row, i, n)) return OUTSIDE;
        return walked(room, hour, row, i, n, what);
    }

    // ---- 3 the soonest

    public int soonest(int from, int to, int hour, int k) {
        if (!isRoom(from) || !isRoom(to)) return UNKNOWN;
        if (!isHour(hour) || k < -1 || k >= MOST_HOURS) return OUTSIDE;
        int hours = fewestHours(from, to, hour, NONE);
        if (k == -1) return hours;
        if (k >= hours) return NONE;
        return actOfSoonest(from, to, hour, hours, k);
    }

    public int errands(int from, int set, int hour) {
        if (!isRoom(from)) return UNKNOWN;
        if (set < 0 || set > allRooms() || !isHour(hour)) return OUTSIDE;
        return errandHours(from, set, hour);
    }

    public int meet(int a, int b, int hour) {
        if (!isRoom(a) || !isRoom(b)) return UNKNOWN;
        if (!isHour(hour)) return OUTSIDE;
        int first = 1 << a;
        int second = 1 << b;
        for (int t = 0; t <= MOST_HOURS; t++) {
            if ((first & second) != 0) return t;
            int now = (hour + t) % HOURS;
            first = anHourOn(first, now, NONE);
            second = anHourOn(second, now, NONE);
        }
        return NONE;
    }

    public int cut(int from, int to, int hour) {
        if (!isRoom(from) || !isRoom(to)) return UNKNOWN;
        if (!isHour(hour)) return OUTSIDE;
        if (fewestHours(from, to, hour, NONE) == NONE) return NONE;
        for (int d = 0; d < doorCount; d++) {
            if (fewestHours(from, to, hour, d) == NONE) return d;
        }
        return NONE;
    }

    public int reach(int hour) {
        if (rooms == 0) return STATE;
        if (!isHour(hour)) return OUTSIDE;
        int set = 0;
        for (int from = 0; from < rooms; from++) {
            if (roomsInTime(from, hour) == allRooms()) set |= 1 << from;
        }
        return set;
    }

    // ---- 4 who came out where

    public int reading(int d, int hour, int room) {
        if (!isDoor(d) || !(isRoom(room) || room == NONE)) return UNKNOWN;
        if (!isHour(hour)) return OUTSIDE;
        if (readingCount >= MOST_READINGS) return FULL;
        readDoor[readingCount] = d;
        readHour[readingCount] = hour;
        readRoom[readingCount] = room;
        readingCount++;
        return readingCount - 1;
    }

    public int back(int k) {
        if (k < 0 || k > readingCount) return OUTSIDE;
        readingCount -= k;
        return readingCount;
    }

    public int steps(int d) {
        if (!isDoor(d)) return UNKNOWN;
        int set = 0;
        trial.becomeLike(doors[d]);
        for (int v = 0; v <= MOST_STEP; v++) {
            trial.step = v;
            if (readingsHold(d)) set |= 1 << v;
        }
        return set;
    }

    public int targets(int d) {
        if (!isDoor(d)) return UNKNOWN;
        int set = 0;
        trial.becomeLike(doors[d]);
        for (int room = 0; room < rooms; room++) {
            trial.to = room;
            if (readingsHold(d)) set |= 1 << room;
        }
        return set;
    }

    public int kinds(int d) {
        if (!isDoor(d)) return UNKNOWN;
        int set = 0;
        trial.becomeLike(doors[d]);
        for (int kind = 0; kind < KINDS; kind++) {
            trial.kind = kind;
            if (readingsHold(d)) set |= 1 << kind;
        }
        return set;
    }

    public long odds(int from, int to, int n, int which) {
        if (!isRoom(from) || !isRoom(to)) return LOST;
        if (n < 0 || n > MOST_HOURS || which < 0 || which > 1) return LOST;
        int upper = 0;
        for (int hour = 0; hour < HOURS; hour++) {
            int hours = fewestHours(from, to, hour, NONE);
            if (hours != NONE && hours <= n) upper++;
        }
        int common = commonWithHours(upper);
        return (which == 0 ? upper : HOURS) / common;
    }

    // ---- 5 sheets, parts

    public int sheet(int k, int lane, int n) {
        latestFault = 0;
        if (!isSheet(k)) return UNKNOWN;
        if (!isLane(lane) || n > MOST_CELLS) return OUTSIDE;
        if (n < 0) return faulted(SIZE_FAULT);
        sheets[k].begin(lane, n);
        return 1;
    }

    public int lose(int k) {
        if (!isSheet(k)) return UNKNOWN;
        if (sheets[k].hasNothing()) return 0;
        sheets[k].empty();
        return 1;
    }

    public int put(int k, int i, int v) {
        latestFault = 0;
        if (!isSheet(k)) return UNKNOWN;
        Sheet row = sheets[k];
        int fault = row.faultOfTaking(row.lane, i, 1);
        if (fault != 0) return faulted(fault);
        row.cells[i] = cutToLane(v, row.lane);
        return 1;
    }

    public long cell(int k, int i, int lane) {
        latestFault = 0;
        if (!isSheet(k) || !isLane(lane)) return LOST;
        latestFault = sheets[k].faultOfTaking(lane, i, 1);
        return latestFault != 0 ? LOST : sheets[k].cells[i];
    }

    public int copy(int k, int i, int other, int j, int n) {
        latestFault = 0;
        if (!isSheet(k) || !isSheet(other)) return UNKNOWN;
        Sheet source = sheets[k];
        Sheet target = sheets[other];
        if (source.hasNothing() || target.hasNothing()) return faulted(NULL_FAULT);
        if (source.lane != target.lane) return faulted(CAST_FAULT);
        if (!source.hasCells(i, n) || !target.hasCells(j, n)) return faulted(INDEX_FAULT);
        System.arraycopy(source.cells, i, target.cells, j, n);
        return n;
    }

    public int tell(int d) {
        if (!isDoor(d)) return UNKNOWN;
        switch (doors[d].kind) {
            case LATE: return lateTelling(doors[d]);
            case CUPBOARD: return cupboardTelling(doors[d]);
            default: return plainTelling(doors[d]);
        }
    }

    public int knock(int d) {
        if (!isDoor(d)) return UNKNOWN;
        boolean own = doors[d].kind == CUPBOARD;
        leaveNumber(own ? 5 : 4);
        return own ? 60 : d;
    }

    public int as(int d, int kind) {
        latestFault = 0;
        if (!isDoor(d)) return UNKNOWN;
        if (kind < 0 || kind >= KINDS) return OUTSIDE;
        // each kind is a door of every kind below it, too
        return doors[d].kind >= kind ? 1 : faulted(CAST_FAULT);
    }

    public int trace() {
        return left;
    }

    public int fault() {
        return latestFault;
    }

    public int many(int what) {
        switch (what) {
            case 0: return doorCount;
            case 1: return rooms;
            case 2: return readingCount;
            default: return OUTSIDE;
        }
    }

    // ---- what there is

    private boolean isRoom(int room) {
        return room >= 0 && room < rooms;
    }

    private boolean isDoor(int d) {
        return d >= 0 && d < doorCount;
    }

    private static boolean isHour(int hour) {
        return hour >= 0 && hour < HOURS;
    }

    private static boolean isSheet(int k) {
        return k >= 0 && k < SHEETS;
    }

    private static boolean isLane(int lane) {
        return lane >= 0 && lane < LANES;
    }

    private int allRooms() {
        return (1 << rooms) - 1;
    }

    private int faulted(int fault) {
        latestFault = fault;
        return -10 - fault;
    }

    // ---- texts

    /** The place of the first fault of a text; NONE: it can be taken. */
    private static int firstFault(Sheet text, int i, int n) {
        int roomsTold = 0;
        for (int place = 0; place < n; place++) {
            int code = text.cells[i + place];
            if (!goesOn(place, code, roomsTold)) return place;
            if (place == 1) roomsTold = code - '0';
        }
        boolean whole = n > HEAD_CODES && (n - HEAD_CODES) % DOOR_CODES == 0;
        return whole ? NONE : n;
    }

    private static boolean goesOn(int place, int code, int roomsTold) {
        if (place == 0) return code == 'd';
        if (place == 1) return code >= '2' && code <= '6';
        if (place >= HEAD_CODES + MOST_DOORS * DOOR_CODES) return false;
        switch ((place - HEAD_CODES) % DOOR_CODES) {
            case 0: return code == ';';
            case 1: return code == 'p' || code == 'l' || code == 'c';
            case 4: return code >= '0' && code <= '0' + MOST_STEP;
            default: return code >= '0' && code < '0' + roomsTold;
        }
    }

    /** Takes a text without fault. */
    private void build(Sheet text, int i, int n) {
        rooms = text.cells[i + 1] - '0';
        doorCount = (n - HEAD_CODES) / DOOR_CODES;
        readingCount = 0;
        for (int d = 0; d < doorCount; d++) {
            int at = i + HEAD_CODES + d * DOOR_CODES;
            doors[d].kind = kindOfLetter(text.cells[at + 1]);
            doors[d].room = text.cells[at + 2] - '0';
            doors[d].to = text.cells[at + 3] - '0';
            doors[d].step = text.cells[at + 4] - '0';
        }
    }

    private static int kindOfLetter(int code) {
        if (code == 'c') return CUPBOARD;
        return code == 'l' ? LATE : PLAIN;
    }

    // ---- going about

    private boolean areActs(Sheet row, int i, int n) {
        for (int t = 0; t < n; t++) {
            int cell = row.cells[i + t];
            if (cell < 0 || cell > doorCount) return false;
        }
        return true;
    }

    /** The room in which one is an hour on by an act; NONE: it can't be. */
    private int roomAfter(int act, int room, int hour) {
        if (act == doorCount) return room;
        if (!isDoor(act) || doors[act].room != room) return NONE;
        return doors[act].leadsTo(hour, rooms);
    }

    private int walked(int room, int hour, Sheet row, int i, int n, int what) {
        int at = room;
        int been = 1 << room;
        int doorsGone = 0;
        for (int t = 0; t < n; t++) {
            int act = row.cells[i + t];
            int next = roomAfter(act, at, (hour + t) % HOURS);
            if (next == NONE) return what == 1 ? t : -100 - t;
            at = next;
            been |= 1 << at;
            if (act != doorCount) doorsGone++;
        }
        switch (what) {
            case 0: return at;
            case 1: return NONE;
            case 2: return been;
            case 3: return (hour + n) % HOURS;
            default: return doorsGone;
        }
    }

    /** The rooms of a set and those to which its doors lead, but for one door. */
    private int anHourOn(int set, int hour, int without) {
        int next = set;
        for (int d = 0; d < doorCount; d++) {
            if (d == without || !has(set, doors[d].room)) continue;
            int room = doors[d].leadsTo(hour, rooms);
            if (room != NONE) next |= 1 << room;
        }
        return next;
    }

    private int fewestHours(int from, int to, int hour, int without) {
        int set = 1 << from;
        for (int t = 0; t <= MOST_HOURS; t++) {
            if (has(set, to)) return t;
            set = anHourOn(set, (hour + t) % HOURS, without);
        }
        return NONE;
    }

    private int roomsInTime(int from, int hour) {
        int set = 1 << from;
        for (int t = 0; t < MOST_HOURS; t++) {
            set = anHourOn(set, (hour + t) % HOURS, NONE);
        }
        return set;
    }

    private int actOfSoonest(int from, int to, int hour, int hours, int k) {
        fillHopeful(to, hour, hours);
        int room = from;
        int act = NONE;
        for (int t = 0; t <= k && t < hours; t++) {
            int now = (hour + t) % HOURS;
            act = firstHopefulAct(room, now, hopeful[t + 1]);
            room = roomAfter(act, room, now);
        }
        return act;
    }

    private void fillHopeful(int to, int hour, int hours) {
        hopeful[hours] = 1 << to;
        for (int t = hours - 1; t > 0; t--) {
            hopeful[t] = anHourAhead(hopeful[t + 1], (hour + t) % HOURS);
        }
    }

    /** The rooms from which one can be in a room of a set an hour on. */
    private int anHourAhead(int set, int hour) {
        int before = set;
        for (int d = 0; d < doorCount; d++) {
            int room = doors[d].leadsTo(hour, rooms);
            if (room != NONE && has(set, room)) before |= 1 << doors[d].room;
        }
        return before;
    }

    private int firstHopefulAct(int room, int hour, int set) {
        for (int act = 0; act < doorCount; act++) {
            int next = roomAfter(act, room, hour);
            if (next != NONE && has(set, next)) return act;
        }
        return doorCount;
    }

    private static boolean has(int set, int number) {
        return (set >> number & 1) != 0;
    }

    // ---- errands

    private int errandHours(int from, int set, int hour) {
        long enough = setsWithAll(set);
        Arrays.fill(seen, 0L);
        seen[from] = 1L << (1 << from);
        for (int t = 0; t <= MOST_HOURS; t++) {
            if (anySeen(enough)) return t;
            seeAnHourOn((hour + t) % HOURS);
        }
        return NONE;
    }

    private static long setsWithAll(int set) {
        long sets = -1L;
        for (int room = 0; room < MOST_ROOMS; room++) {
            if (has(set, room)) sets &= SETS_WITH[room];
        }
        return sets;
    }

    private boolean anySeen(long sets) {
        for (int room = 0; room < MOST_ROOMS; room++) {
            if ((seen[room] & sets) != 0L) return true;
        }
        return false;
    }

    private void seeAnHourOn(int hour) {
        System.arraycopy(seen, 0, seenNext, 0, MOST_ROOMS);
        for (int d = 0; d < doorCount; d++) {
            int room = doors[d].leadsTo(hour, rooms);
            if (room != NONE) seenNext[room] |= eachWith(seen[doors[d].room], room);
        }
        System.arraycopy(seenNext, 0, seen, 0, MOST_ROOMS);
    }

    /** Puts a room into each of the sets. */
    private static long eachWith(long sets, int room) {
        long with = sets & SETS_WITH[room];
        long without = sets & ~SETS_WITH[room];
        return with | without << (1 << room);
    }

    // ---- readings and shares

    /** Whether all readings are so with the trial in place of a door. */
    private boolean readingsHold(int d) {
        for (int k = 0; k < readingCount; k++) {
            Door door = readDoor[k] == d ? trial : doors[readDoor[k]];
            if (door.leadsTo(readHour[k], rooms) != readRoom[k]) return false;
        }
        return true;
    }

    private static int commonWithHours(int upper) {
        for (int common = HOURS; common > 1; common--) {
            if (HOURS % common == 0 && upper % common == 0) return common;
        }
        return 1;
    }

    // ---- cells and bodies

    private static int cutToLane(int v, int lane) {
        if (lane == 0) return (byte) v;
        return lane == 1 ? (short) v : v;
    }

    private void leaveNumber(int body) {
        left = 31 * left + body;
    }

    private int plainTelling(Door door) {
        leaveNumber(1);
        return door.step;
    }

    private int lateTelling(Door door) {
        leaveNumber(2);
        return plainTelling(door) + 100;
    }

    private int cupboardTelling(Door door) {
        leaveNumber(3);
        int asLate = lateTelling(door);
        return asLate + plainTelling(door);
    }

    /** A door: its kind, where it is, and how it turns. */
    private static final class Door {
        int kind;
        int room;
        int to;
        int step;

        void becomeLike(Door other) {
            kind = other.kind;
            room = other.room;
            to = other.to;
            step = other.step;
        }

        /** The room to which it leads at an hour; NONE: it is shut. */
        int leadsTo(int hour, int rooms) {
            if (rooms <= 0) return NONE;
            if (kind == CUPBOARD && hour % 3 != 0) return NONE;
            int told = kind == PLAIN ? hour : (hour + HOURS - 1) % HOURS;
            return (to + step * told) % rooms;
        }
    }

    /**
     * A sheet. Its cells are ints whatever its lane, as what comes to them is
     * cut already, and one row serves all its lives, so that no call makes one.
     */
    private static final class Sheet {
        private static final int NOTHING = -1;
        final int[] cells;
        int lane;
        int size;

        Sheet() {
            cells = new int[MOST_CELLS];
            size = NOTHING;
        }

        boolean hasNothing() {
            return size == NOTHING;
        }

        void empty() {
            size = NOTHING;
        }

        void begin(int newLane, int n) {
            Arrays.fill(cells, 0);
            lane = newLane;
            size = n;
        }

        /** Whether n cells from i on are there; of none, i is a place or the end. */
        boolean hasCells(int i, int n) {
            return i >= 0 && i <= size && n >= 0 && n <= size - i;
        }

        /** The fault of taking n cells from i on as a row of a lane; 0: none. */
        int faultOfTaking(int asLane, int i, int n) {
            if (hasNothing()) return NULL_FAULT;
            if (lane != asLane) return CAST_FAULT;
            if (n < 0) return SIZE_FAULT;
            return hasCells(i, n) ? 0 : INDEX_FAULT;
        }
    }
}
