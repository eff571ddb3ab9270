import java.lang.reflect.Method;
import java.util.ArrayList;
import java.util.Arrays;
import java.util.HashMap;
import java.util.HashSet;
import java.util.List;
import java.util.Map;
import java.util.Random;
import java.util.Set;

/** Long runs of calls, each answer held against a second, plain telling of the document. */
public final class ModelTest {
    private static final int RUNS = 1500, CALLS = 512;
    private static final int[] WILD = {Integer.MIN_VALUE, Integer.MAX_VALUE, -9, -100, 1000, 64, 1 << 30};

    /** Of each call: the least and the greatest good number for each argument. */
    private static final Map<String, int[]> RANGES = new HashMap<>();

    static {
        RANGES.put("house", new int[] {0, 3, 0, 2, 0, 60, 0, 60});
        RANGES.put("ofDoor", new int[] {0, 7, 0, 3});
        RANGES.put("leads", new int[] {0, 7, 0, 11});
        RANGES.put("step", new int[] {0, 7, 0, 5});
        RANGES.put("turn", new int[] {0, 7, 0, 5});
        RANGES.put("walk", new int[] {0, 5, 0, 11, 0, 3, 0, 2, 0, 20, 0, 12, 0, 4});
        RANGES.put("soonest", new int[] {0, 5, 0, 5, 0, 11, -1, 23});
        RANGES.put("errands", new int[] {0, 5, 0, 63, 0, 11});
        RANGES.put("meet", new int[] {0, 5, 0, 5, 0, 11});
        RANGES.put("cut", new int[] {0, 5, 0, 5, 0, 11});
        RANGES.put("reach", new int[] {0, 11});
        RANGES.put("reading", new int[] {0, 7, 0, 11, 0, 5});
        RANGES.put("back", new int[] {0, 8});
        RANGES.put("steps", new int[] {0, 7});
        RANGES.put("targets", new int[] {0, 7});
        RANGES.put("kinds", new int[] {0, 7});
        RANGES.put("odds", new int[] {0, 5, 0, 5, 0, 24, 0, 1});
        RANGES.put("sheet", new int[] {0, 3, 0, 2, 0, 60});
        RANGES.put("lose", new int[] {0, 3});
        RANGES.put("put", new int[] {0, 3, 0, 60, 0, 9});
        RANGES.put("cell", new int[] {0, 3, 0, 60, 0, 2});
        RANGES.put("copy", new int[] {0, 3, 0, 30, 0, 3, 0, 30, 0, 30});
        RANGES.put("tell", new int[] {0, 7});
        RANGES.put("knock", new int[] {0, 7});
        RANGES.put("as", new int[] {0, 7, 0, 2});
        RANGES.put("trace", new int[] {});
        RANGES.put("fault", new int[] {});
        RANGES.put("many", new int[] {0, 2});
    }

    private final Random random;
    private final HourDoors real = new HourDoors();
    private final Model model = new Model();
    private final Map<String, Method> realCalls = new HashMap<>();
    private final Map<String, Method> modelCalls = new HashMap<>();
    private final List<String> said = new ArrayList<>();
    private boolean wrong = false;

    private ModelTest(long seed) {
        random = new Random(seed);
        for (String name : RANGES.keySet()) {
            Class<?>[] types = new Class<?>[RANGES.get(name).length / 2];
            Arrays.fill(types, int.class);
            realCalls.put(name, find(HourDoors.class, name, types));
            modelCalls.put(name, find(Model.class, name, types));
        }
    }

    private static Method find(Class<?> owner, String name, Class<?>[] types) {
        try {
            return owner.getDeclaredMethod(name, types);
        } catch (NoSuchMethodException e) {
            throw new IllegalStateException(e);
        }
    }

    public static void main(String[] args) {
        int failed = 0;
        for (int run = 0; run < RUNS && failed < 5; run++) {
            if (!new ModelTest(run).run()) {
                failed++;
                System.out.println("run " + run + " is not as due");
            }
        }
        System.out.println(RUNS + " runs, " + failed + " not as due");
        if (failed != 0) System.exit(1);
    }

    private boolean run() {
        String[] names = RANGES.keySet().toArray(new String[0]);
        Arrays.sort(names);
        while (said.size() < CALLS && !wrong) {
            int left = CALLS - said.size();
            int dice = random.nextInt(100);
            if (dice < 2 && left > 50 || said.size() == 20) tellHouse();
            else if (dice < 4 && left > 20) tellWalk();
            else if (dice < 12) tellTruth();
            else ask(names[random.nextInt(names.length)]);
        }
        return !wrong;
    }

    private void tellHouse() {
        StringBuilder text = new StringBuilder();
        int rooms = 2 + random.nextInt(5);
        text.append('d').append(rooms);
        int doors = 1 + random.nextInt(8);
        for (int d = 0; d < doors; d++) {
            text.append(';').append("plc".charAt(random.nextInt(3))).append(random.nextInt(rooms));
            text.append(random.nextInt(rooms)).append(random.nextInt(6));
        }
        if (random.nextInt(6) == 0) {
            text.setCharAt(random.nextInt(text.length()), "dplc;0123456789".charAt(random.nextInt(15)));
        }
        int k = random.nextInt(4);
        int lane = random.nextInt(3);
        int ahead = random.nextInt(4);
        say("sheet", k, lane, ahead + text.length());
        for (int i = 0; i < text.length(); i++) say("put", k, ahead + i, text.charAt(i));
        say("house", k, lane, ahead, text.length() - (random.nextInt(8) == 0 ? 1 : 0));
    }

    /** A walk that goes well for a while. */
    private void tellWalk() {
        if (model.rooms == 0) return;
        int k = random.nextInt(4);
        int n = random.nextInt(12);
        int start = random.nextInt(model.rooms);
        int hour = random.nextInt(12);
        int room = start;
        say("sheet", k, 2, n);
        for (int t = 0; t < n; t++) {
            List<Integer> good = new ArrayList<>();
            for (int act = 0; act <= model.doors.size(); act++) {
                if (model.next(act, room, (hour + t) % 12) >= 0) good.add(act);
            }
            int act = good.get(random.nextInt(good.size()));
            if (random.nextInt(15) == 0) act = random.nextInt(model.doors.size() + 2);
            say("put", k, t, act);
            int next = model.next(act, room, (hour + t) % 12);
            if (next >= 0) room = next;
        }
        for (int what = 0; what < 5; what++) say("walk", start, hour, k, 2, 0, n, what);
    }

    /** A reading that is so, or a walk's way, so that not all sets are empty. */
    private void tellTruth() {
        if (model.doors.isEmpty()) return;
        int d = random.nextInt(model.doors.size());
        int hour = random.nextInt(12);
        if (model.readings.size() > 5) say("back", 1 + random.nextInt(6));
        say("reading", d, hour, model.leads(d, hour));
        say(new String[] {"steps", "targets", "kinds"}[random.nextInt(3)], random.nextInt(model.doors.size()));
    }

    private void ask(String name) {
        int[] ranges = RANGES.get(name);
        int[] args = new int[ranges.length / 2];
        for (int a = 0; a < args.length; a++) {
            int low = ranges[2 * a];
            int high = ranges[2 * a + 1];
            int dice = random.nextInt(40);
            if (dice == 0) args[a] = WILD[random.nextInt(WILD.length)];
            else if (dice == 1) args[a] = low - 1;
            else if (dice == 2) args[a] = high + 1;
            else args[a] = low + random.nextInt(high - low + 1);
        }
        say(name, args);
    }

    private void say(String name, int... args) {
        if (wrong || said.size() >= CALLS) return;
        said.add(name + Arrays.toString(args));
        long got = answer(realCalls.get(name), real, args);
        long want = answer(modelCalls.get(name), model, args);
        if (got == want) return;
        wrong = true;
        for (String call : said) System.out.println(call);
        System.out.println("answered " + got + ", due is " + want);
    }

    private static long answer(Method call, Object owner, int[] args) {
        Object[] boxed = new Object[args.length];
        for (int a = 0; a < args.length; a++) boxed[a] = args[a];
        try {
            return ((Number) call.invoke(owner, boxed)).longValue();
        } catch (ReflectiveOperationException e) {
            throw new IllegalStateException(call.getName() + Arrays.toString(args), e);
        }
    }

    /** The document told again, without a thought for speed. */
    static final class Model {
        int rooms = 0;
        List<int[]> doors = new ArrayList<>();
        List<int[]> readings = new ArrayList<>();
        final Object[] sheets = new Object[4];
        int trace = 0;
        int fault = 0;

        // ---- 1

        int house(int sheet, int lane, int i, int n) {
            fault = 0;
            if (sheet < 0 || sheet > 3) return -1;
            if (lane < 0 || lane > 2) return -2;
            Object row = sheets[sheet];
            if (row != null && laneOf(row) != lane) return fail(2);
            if (row == null) return fail(1);
            if (n < 0) return fail(4);
            if (i < 0 || i > sizeOf(row) || (long) i + n > sizeOf(row)) return fail(3);
            StringBuilder text = new StringBuilder();
            for (int c = 0; c < n; c++) {
                int code = get(row, i + c);
                text.append(code < 0 || code > 127 ? '?' : (char) code);
            }
            for (int length = 1; length <= n; length++) {
                if (!begins(text.substring(0, length))) return -100 - (length - 1);
            }
            if (!text.toString().matches("d[2-6](;[plc][0-5][0-5][0-5]){1,8}")) return -100 - n;
            rooms = text.charAt(1) - '0';
            doors = new ArrayList<>();
            readings = new ArrayList<>();
            for (String door : text.substring(3).split(";")) {
                doors.add(new int[] {"plc".indexOf(door.charAt(0)), door.charAt(1) - '0', door.charAt(2) - '0',
                    door.charAt(3) - '0'});
            }
            return doors.size();
        }

        /** Whether a text can begin so. */
        private static boolean begins(String head) {
            String room = head.length() < 2 ? "" : "[0-" + (char) (head.charAt(1) - 1) + "]";
            if (head.equals("d")) return true;
            if (!head.matches("d[2-6].*")) return false;
            String door = ";[plc]" + room + room + "[0-5]";
            String part = "(;([plc](" + room + "(" + room + ")?)?)?)?";
            return head.matches("d[2-6]((" + door + "){0,7}" + part + "|(" + door + "){8})");
        }

        int ofDoor(int d, int what) {
            if (d < 0 || d >= doors.size()) return -1;
            return what < 0 || what > 3 ? -2 : doors.get(d)[what];
        }

        int leads(int d, int hour) {
            if (d < 0 || d >= doors.size()) return -1;
            return hour < 0 || hour > 11 ? -2 : led(doors.get(d), hour);
        }

        private int led(int[] door, int hour) {
            if (door[0] == 2) return hour == 0 || hour == 3 || hour == 6 || hour == 9 ? late(door, hour) : -9;
            return door[0] == 1 ? late(door, hour) : plain(door, hour);
        }

        private int late(int[] door, int hour) {
            return plain(door, hour == 0 ? 11 : hour - 1);
        }

        private int plain(int[] door, int hour) {
            int room = door[2];
            for (int s = 0; s < door[3] * hour; s++) room = room + 1 == rooms ? 0 : room + 1;
            return room;
        }

        int step(int d, int v) {
            if (d < 0 || d >= doors.size()) return -1;
            if (v < 0 || v > 5) return -2;
            int was = doors.get(d)[3];
            doors.get(d)[3] = v;
            return was;
        }

        int turn(int d, int room) {
            if (d < 0 || d >= doors.size() || noRoom(room)) return -1;
            int was = doors.get(d)[2];
            doors.get(d)[2] = room;
            return was;
        }

        private boolean noRoom(int room) {
            return room < 0 || room >= rooms;
        }

        // ---- 2

        int next(int act, int room, int hour) {
            if (act == doors.size()) return room;
            if (act < 0 || act > doors.size() || doors.get(act)[1] != room) return -9;
            return led(doors.get(act), hour);
        }

        int walk(int room, int hour, int sheet, int lane, int i, int n, int what) {
            fault = 0;
            if (noRoom(room)) return -1;
            if (sheet < 0 || sheet > 3) return -1;
            if (hour < 0 || hour > 11) return -2;
            if (lane < 0 || lane > 2) return -2;
            if (n < 0 || n > 40) return -2;
            if (what < 0 || what > 4) return -2;
            Object row = sheets[sheet];
            if (row != null && laneOf(row) != lane) return fail(2);
            if (row == null) return fail(1);
            if (i < 0 || i > sizeOf(row) || (long) i + n > sizeOf(row)) return fail(3);
            for (int t = 0; t < n; t++) {
                if (get(row, i + t) < 0 || get(row, i + t) > doors.size()) return -2;
            }
            List<Integer> way = new ArrayList<>(List.of(room));
            int went = 0;
            for (int t = 0; t < n; t++) {
                int act = get(row, i + t);
                int to = next(act, way.get(t), (hour + t) % 12);
                if (to == -9) return what == 1 ? t : -100 - t;
                way.add(to);
                if (act < doors.size()) went++;
            }
            int been = 0;
            for (int at : way) been |= 1 << at;
            return new int[] {way.get(n), -9, been, (hour + n) % 12, went}[what];
        }

        // ---- 3

        /** The first row of so many acts by which one comes there; null: there is none. */
        private List<Integer> first(int room, int to, int hour, int hours, int without, Set<Integer> vain) {
            if (hours == 0) return room == to ? new ArrayList<>() : null;
            if (vain.contains(room * 100 + hours)) return null;
            for (int act = 0; act <= doors.size(); act++) {
                int there = act == without ? -9 : next(act, room, hour);
                if (there == -9) continue;
                List<Integer> rest = first(there, to, (hour + 1) % 12, hours - 1, without, vain);
                if (rest == null) continue;
                rest.add(0, act);
                return rest;
            }
            vain.add(room * 100 + hours);
            return null;
        }

        private List<Integer> soonestWalk(int from, int to, int hour, int without) {
            for (int hours = 0; hours <= 24; hours++) {
                List<Integer> walk = first(from, to, hour, hours, without, new HashSet<>());
                if (walk != null) return walk;
            }
            return null;
        }

        int soonest(int from, int to, int hour, int k) {
            if (noRoom(from) || noRoom(to)) return -1;
            if (hour < 0 || hour > 11 || k < -1 || k > 23) return -2;
            List<Integer> walk = soonestWalk(from, to, hour, -1);
            if (walk == null) return -9;
            if (k == -1) return walk.size();
            return k < walk.size() ? walk.get(k) : -9;
        }

        int errands(int from, int set, int hour) {
            if (noRoom(from)) return -1;
            if (set < 0 || set >= 1 << rooms || hour < 0 || hour > 11) return -2;
            Set<List<Integer>> states = new HashSet<>();
            states.add(List.of(from, 1 << from));
            for (int t = 0; t <= 24; t++) {
                Set<List<Integer>> later = new HashSet<>();
                for (List<Integer> state : states) {
                    if ((state.get(1) & set) == set) return t;
                    for (int act = 0; act <= doors.size(); act++) {
                        int to = next(act, state.get(0), (hour + t) % 12);
                        if (to != -9) later.add(List.of(to, state.get(1) | 1 << to));
                    }
                }
                states = later;
            }
            return -9;
        }

        int meet(int a, int b, int hour) {
            if (noRoom(a) || noRoom(b)) return -1;
            if (hour < 0 || hour > 11) return -2;
            Set<List<Integer>> pairs = new HashSet<>();
            pairs.add(List.of(a, b));
            for (int t = 0; t <= 24; t++) {
                Set<List<Integer>> later = new HashSet<>();
                for (List<Integer> pair : pairs) {
                    if (pair.get(0).intValue() == pair.get(1)) return t;
                    for (int one = 0; one <= doors.size(); one++) {
                        int first = next(one, pair.get(0), (hour + t) % 12);
                        for (int two = 0; two <= doors.size() && first != -9; two++) {
                            int second = next(two, pair.get(1), (hour + t) % 12);
                            if (second != -9) later.add(List.of(first, second));
                        }
                    }
                }
                pairs = later;
            }
            return -9;
        }

        int cut(int from, int to, int hour) {
            if (noRoom(from) || noRoom(to)) return -1;
            if (hour < 0 || hour > 11) return -2;
            if (soonestWalk(from, to, hour, -1) == null) return -9;
            for (int d = 0; d < doors.size(); d++) {
                if (soonestWalk(from, to, hour, d) == null) return d;
            }
            return -9;
        }

        int reach(int hour) {
            if (rooms == 0) return -3;
            if (hour < 0 || hour > 11) return -2;
            int set = 0;
            for (int from = 0; from < rooms; from++) {
                boolean all = true;
                for (int to = 0; to < rooms; to++) all &= soonestWalk(from, to, hour, -1) != null;
                if (all) set += 1 << from;
            }
            return set;
        }

        // ---- 4

        int reading(int d, int hour, int room) {
            if (d < 0 || d >= doors.size()) return -1;
            if (room != -9 && noRoom(room)) return -1;
            if (hour < 0 || hour > 11) return -2;
            if (readings.size() == 8) return -4;
            readings.add(new int[] {d, hour, room});
            return readings.size() - 1;
        }

        int back(int k) {
            if (k < 0 || k > readings.size()) return -2;
            for (int r = 0; r < k; r++) readings.remove(readings.size() - 1);
            return readings.size();
        }

        private int so(int d, int part, int values) {
            if (d < 0 || d >= doors.size()) return -1;
            int was = doors.get(d)[part];
            int set = 0;
            for (int v = 0; v < values; v++) {
                doors.get(d)[part] = v;
                boolean all = true;
                for (int[] r : readings) all &= led(doors.get(r[0]), r[1]) == r[2];
                if (all) set += 1 << v;
            }
            doors.get(d)[part] = was;
            return set;
        }

        int steps(int d) {
            return so(d, 3, 6);
        }

        int targets(int d) {
            return so(d, 2, rooms);
        }

        int kinds(int d) {
            return so(d, 0, 3);
        }

        long odds(int from, int to, int n, int which) {
            if (noRoom(from) || noRoom(to) || n < 0 || n > 24 || which < 0 || which > 1) return Long.MIN_VALUE;
            int[] share = {0, 12};
            for (int hour = 0; hour < 12; hour++) {
                List<Integer> walk = soonestWalk(from, to, hour, -1);
                if (walk != null && walk.size() <= n) share[0]++;
            }
            for (int by : new int[] {2, 2, 3}) {
                if (share[0] % by == 0 && share[1] % by == 0) {
                    share[0] /= by;
                    share[1] /= by;
                }
            }
            return share[which];
        }

        // ---- 5

        private int fail(int which) {
            fault = which;
            return -10 - which;
        }

        private static int laneOf(Object row) {
            return row instanceof byte[] ? 0 : row instanceof short[] ? 1 : 2;
        }

        private static int sizeOf(Object row) {
            return java.lang.reflect.Array.getLength(row);
        }

        private static int get(Object row, int i) {
            return ((Number) java.lang.reflect.Array.get(row, i)).intValue();
        }

        int sheet(int k, int lane, int n) {
            fault = 0;
            if (k < 0 || k > 3) return -1;
            if (lane < 0 || lane > 2 || n > 60) return -2;
            if (n < 0) return fail(4);
            sheets[k] = lane == 0 ? new byte[n] : lane == 1 ? new short[n] : new int[n];
            return 1;
        }

        int lose(int k) {
            if (k < 0 || k > 3) return -1;
            int had = sheets[k] == null ? 0 : 1;
            sheets[k] = null;
            return had;
        }

        int put(int k, int i, int v) {
            fault = 0;
            if (k < 0 || k > 3) return -1;
            if (sheets[k] == null) return fail(1);
            if (i < 0 || i >= sizeOf(sheets[k])) return fail(3);
            if (sheets[k] instanceof byte[] row) row[i] = (byte) v;
            if (sheets[k] instanceof short[] row) row[i] = (short) v;
            if (sheets[k] instanceof int[] row) row[i] = v;
            return 1;
        }

        long cell(int k, int i, int lane) {
            fault = 0;
            if (k < 0 || k > 3 || lane < 0 || lane > 2) return Long.MIN_VALUE;
            if (sheets[k] == null) fault = 1;
            else if (laneOf(sheets[k]) != lane) fault = 2;
            else if (i < 0 || i >= sizeOf(sheets[k])) fault = 3;
            return fault != 0 ? Long.MIN_VALUE : get(sheets[k], i);
        }

        int copy(int k, int i, int other, int j, int n) {
            fault = 0;
            if (k < 0 || k > 3 || other < 0 || other > 3) return -1;
            if (sheets[k] == null || sheets[other] == null) return fail(1);
            try {
                System.arraycopy(sheets[k], i, sheets[other], j, n);
            } catch (ArrayStoreException e) {
                return fail(2);
            } catch (IndexOutOfBoundsException e) {
                return fail(3);
            }
            return n;
        }

        int tell(int d) {
            if (d < 0 || d >= doors.size()) return -1;
            int[][] bodies = {{1}, {2, 1}, {3, 2, 1, 1}};
            int kind = doors.get(d)[0];
            for (int body : bodies[kind]) trace = trace * 31 + body;
            int step = doors.get(d)[3];
            return new int[] {step, step + 100, step + 100 + step}[kind];
        }

        int knock(int d) {
            if (d < 0 || d >= doors.size()) return -1;
            trace = trace * 31 + (doors.get(d)[0] == 2 ? 5 : 4);
            return doors.get(d)[0] == 2 ? 60 : d;
        }

        int as(int d, int kind) {
            fault = 0;
            if (d < 0 || d >= doors.size()) return -1;
            if (kind < 0 || kind > 2) return -2;
            return doors.get(d)[0] < kind ? fail(2) : 1;
        }

        int trace() {
            return trace;
        }

        int fault() {
            return fault;
        }

        int many(int what) {
            if (what < 0 || what > 2) return -2;
            return new int[] {doors.size(), rooms, readings.size()}[what];
        }
    }
}
