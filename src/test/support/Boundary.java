import java.lang.reflect.InvocationTargetException;
import java.lang.reflect.Method;
import java.util.ArrayList;
import java.util.Comparator;
import java.util.EnumMap;
import java.util.LinkedHashMap;
import java.util.List;
import java.util.Map;
import java.util.TreeSet;

/** What the tests by promise share: objects in three states, all that can be seen of one, and ways to ask that nothing changed. */
abstract class Boundary {
    static final int NONE = -1000000, BAD = -1000001, STATE = -1000002, FULL = -1000003;
    static final int NULL = -1000011, PLACE = -1000012, KIND = -1000013, SIZE = -1000014, STORE = -1000015;
    static final int MIN = Integer.MIN_VALUE, MAX = Integer.MAX_VALUE;
    static final int BYTES = 0, SHORTS = 1, INTS = 2;
    static final World NEW = World.NEW, BUSY = World.BUSY, BRIMFUL = World.BRIMFUL;
    /** SHEETS that reading others may lay anew; no test that reads ITEMS keeps its own here. */
    private static final int SCRATCH = 6, NOUGHTS = 7;
    private static final int FINDINGS = -1000010, STATUS_OF_SIZE = 4;
    private static final int MOST_ITEMS_SURVEYED = 8;

    private static String running = "";
    private static int wrong = 0;

    interface Call {
        int on(ShapeBetween s);
    }

    interface CallWith {
        int on(ShapeBetween s, int v);
    }

    /** The states that calls are made in; status() is 0 in each, or 4 (SIZE) if that is asked for. */
    enum World {
        NEW, BUSY, BRIMFUL;

        private static final Map<World, Map<Integer, Map<String, Integer>>> SURVEYS = new EnumMap<>(World.class);

        ShapeBetween make() {
            return this == NEW ? new ShapeBetween() : this == BUSY ? busy() : brimful();
        }

        ShapeBetween make(int status) {
            ShapeBetween s = make();
            if (status == STATUS_OF_SIZE) {
                s.sheet(0, 0, -1);
            }
            return s;
        }

        Map<String, Integer> survey(int status) {
            return SURVEYS.computeIfAbsent(this, w -> new LinkedHashMap<>())
                    .computeIfAbsent(status, w -> Boundary.survey(make(status)));
        }
    }

    /** SHEETS of every LANE, an empty one and missing ones; THIRDS 0 STILL, 1 SOUND, 2 TURNED, 3 FLAT; three KEYS. */
    private static ShapeBetween busy() {
        ShapeBetween s = new ShapeBetween();
        fill(s, 0, BYTES, 1, 2, 3, 4);
        fill(s, 1, SHORTS, 100, 200, 300, 400, 500, 600);
        fill(s, 2, INTS, 10, 20, 30, 40, 50, 60, 70, 80);
        fill(s, 3, INTS);
        fill(s, 4, INTS, 1000, 0, 5, 255);
        lowerHalf(s);
        s.mark(100, 100, 200, 100);
        s.mark(300, 100, 400, 200);
        s.mark(100, 400, 100, 300);
        s.mark(500, 500, 600, 600);
        s.third(0, 1, 2);
        s.third(3, 4, 5);
        s.third(0, 2, 3);
        s.third(0, 3, 6);
        s.key(100, 50);
        s.key(400, 200);
        s.key(900, 950);
        s.picture(0, 2, 0, 3, 2);
        s.picture(1, 0, 0, 2, 2);
        s.ask(0, 0);
        return s;
    }

    /** Eight SHEETS, 16 MARKS, 24 THIRDS, six KEYS. */
    private static ShapeBetween brimful() {
        ShapeBetween s = new ShapeBetween();
        for (int sheet = 0; sheet < 6; sheet++) {
            fill(s, sheet, sheet % 3, sheet + 1, 10 * (sheet + 1));
        }
        fill(s, 6, INTS);
        fill(s, 7, BYTES);
        lowerHalf(s);
        for (int m = 3; m < 16; m++) {
            s.mark(50 * m, m * m, 40 * m, m * m);
        }
        s.third(0, 1, 2);
        for (int m = 3; m < 15; m++) {
            s.third(0, m, m + 1);
        }
        for (int m = 3; m < 14; m++) {
            s.third(1, m, m + 1);
        }
        int[][] keys = {{0, 0}, {100, 100}, {200, 100}, {300, 500}, {400, 900}, {999, 1000}};
        for (int[] key : keys) {
            s.key(key[0], key[1]);
        }
        s.picture(0, 2, 0, 2, 1);
        s.picture(1, 5, 0, 1, 2);
        s.ask(0, 1);
        return s;
    }

    /** MARKS 0, 1, 2 at three corners of both pictures. */
    static void lowerHalf(ShapeBetween s) {
        s.mark(0, 0, 0, 0);
        s.mark(1000, 0, 1000, 0);
        s.mark(0, 1000, 0, 1000);
    }

    /** Two THIRDS that cover both pictures and stay: what a place is FROM is the place itself. */
    static ShapeBetween covered() {
        ShapeBetween s = new ShapeBetween();
        lowerHalf(s);
        s.mark(1000, 1000, 1000, 1000);
        s.third(0, 1, 2);
        s.third(3, 2, 1);
        return s;
    }

    /** MARKS told as x0, y0, x1, y1 each. */
    static ShapeBetween marked(int[]... marks) {
        ShapeBetween s = new ShapeBetween();
        for (int[] m : marks) {
            s.mark(m[0], m[1], m[2], m[3]);
        }
        return s;
    }

    /**
     * THIRDS of MARKS of their own, each told by its AREA in picture 0 and in picture 1: MARKS 3 t and 3 t + 1 stay,
     * 3 t + 2 goes straight up or down.
     */
    static ShapeBetween triangles(int[]... areas) {
        ShapeBetween s = new ShapeBetween();
        for (int t = 0; t < areas.length; t++) {
            s.mark(10 * t, 10, 10 * t, 10);
            s.mark(10 * t + 1, 10, 10 * t + 1, 10);
            s.mark(10 * t, 10 + areas[t][0], 10 * t, 10 + areas[t][1]);
            s.third(3 * t, 3 * t + 1, 3 * t + 2);
        }
        return s;
    }

    static void fill(ShapeBetween s, int sheet, int lane, int... items) {
        s.sheet(sheet, lane, items.length);
        for (int i = 0; i < items.length; i++) {
            s.set(sheet, i, items[i]);
        }
    }

    /** ITEM i, as the cost of pairing it with nought: BAD, if it is not 0 to 1000. */
    static int item(ShapeBetween s, int sheet, int lane, int i) {
        s.sheet(SCRATCH, lane, 2);
        s.sheet(NOUGHTS, INTS, 2);
        s.copy(sheet, i, SCRATCH, 0, 1);
        return s.pairs(SCRATCH, 1, NOUGHTS, 1, 0);
    }

    /** The first n ITEMS, n being even, added up; each must be 0 to 1000. */
    static int sum(ShapeBetween s, int sheet, int lane, int n) {
        int sum = 0;
        s.sheet(SCRATCH, lane, 60);
        s.sheet(NOUGHTS, INTS, 2);
        for (int i = 0; i < n; i += 60) {
            int some = Math.min(60, n - i);
            s.copy(sheet, i, SCRATCH, 0, some);
            sum += s.pairs(SCRATCH, some / 2, NOUGHTS, 1, 0);
        }
        return sum;
    }

    // ---- all that can be seen

    /** Asks for everything that an object holds, by name. The object is of no use afterwards. */
    static Map<String, Integer> survey(ShapeBetween s) {
        Map<String, Integer> seen = new LinkedHashMap<>();
        seen.put("status", s.status());
        for (int i = 0; i <= 16; i++) {
            seen.put("trace " + i, s.trace(i));
        }
        for (int what = 0; what <= 7; what++) {
            seen.put("count " + what, s.count(what));
        }
        surveyMarks(s, seen);
        for (int time = 0; time <= 1000; time += 50) {
            seen.put("eased " + time, s.eased(time));
        }
        for (int time : new int[] {1, 99, 101, 399, 401, 899, 901, 999}) {
            seen.put("eased " + time, s.eased(time));
        }
        surveyPictures(s, seen);
        surveySheets(s, seen);
        return seen;
    }

    private static void surveyMarks(ShapeBetween s, Map<String, Integer> seen) {
        int marks = Math.min(16, s.count(1));
        int thirds = Math.min(24, s.count(2));
        for (int m = 0; m < marks; m++) {
            seen.put("mark " + m + " x0", s.at(m, 0, 1, 0));
            seen.put("mark " + m + " y0", s.at(m, 0, 1, 1));
            seen.put("mark " + m + " x1", s.at(m, 1, 1, 0));
            seen.put("mark " + m + " y1", s.at(m, 1, 1, 1));
        }
        for (int t = 0; t < thirds; t++) {
            for (int which = 0; which < 3; which++) {
                seen.put("third " + t + " mark " + which, s.told(t, which));
            }
        }
    }

    private static void surveyPictures(ShapeBetween s, Map<String, Integer> seen) {
        if (s.count(2) == 0) {
            lowerHalf(s);
            s.third(0, 1, 2);
        }
        for (int half = 0; half < 2; half++) {
            spread(s, half);
            for (int y : new int[] {0, 600, 1000}) {
                for (int x : new int[] {0, 400, 600, 1000}) {
                    if (x + y <= 1000 == (half == 0)) {
                        seen.put("picture 0 at " + x + ", " + y, s.seen(x, y, 0, 1));
                        seen.put("picture 1 at " + x + ", " + y, s.seen(x, y, 1, 1));
                    }
                }
            }
        }
    }

    /** THIRD 0 comes to cover one half of both pictures, and stays: no other is met ahead of it. */
    private static void spread(ShapeBetween s, int half) {
        int[] xs = {1000 * half, 1000 - 1000 * half, 1000 * half};
        int[] ys = {1000 * half, 1000 * half, 1000 - 1000 * half};
        for (int which = 0; which < 3; which++) {
            s.move(s.told(0, which), 0, xs[which], ys[which]);
            s.move(s.told(0, which), 1, xs[which], ys[which]);
        }
    }

    /** The last two SHEETS serve to read the others, so no more than their LANES and how many ITEMS is asked of them. */
    private static void surveySheets(ShapeBetween s, Map<String, Integer> seen) {
        seen.put("sheet 6 lane as 7's", s.copy(SCRATCH, 0, NOUGHTS, 0, 0));
        seen.put("sheet 0 lane as 7's", s.copy(0, 0, NOUGHTS, 0, 0));
        seen.put("sheet 6 items", s.drop(SCRATCH));
        seen.put("sheet 7 items", s.drop(NOUGHTS));
        s.sheet(NOUGHTS, INTS, 2);
        for (int sheet = 0; sheet < SCRATCH; sheet++) {
            int lane = layScratchLike(s, sheet);
            seen.put("sheet " + sheet + " lane", lane);
            for (int i = 0; i < MOST_ITEMS_SURVEYED && s.copy(sheet, i, SCRATCH, 0, 1) == 1; i++) {
                seen.put("sheet " + sheet + " item " + i, s.pairs(SCRATCH, 1, NOUGHTS, 1, 0));
            }
            seen.put("sheet " + sheet + " items", s.drop(sheet));
        }
    }

    private static int layScratchLike(ShapeBetween s, int sheet) {
        for (int lane = BYTES; lane <= INTS; lane++) {
            s.sheet(SCRATCH, lane, 2);
            if (s.copy(sheet, 0, SCRATCH, 0, 0) == 0) {
                return lane;
            }
        }
        return NONE;
    }

    // ---- what is due

    static void due(int got, int want) {
        if (got != want) {
            tell("answered " + got + ", due is " + want);
        }
    }

    private static void tell(String what) {
        wrong++;
        StackTraceElement at = new Throwable().getStackTrace()[0];
        for (StackTraceElement next : new Throwable().getStackTrace()) {
            if (!next.getClassName().startsWith("Boundary") && !next.getMethodName().equals("due")) {
                at = next;
                break;
            }
        }
        System.out.println(running + ", line " + at.getLineNumber() + ": " + what);
    }

    /** Each call answers this, and leaves everything as it was, status() too. */
    static void leaves(World world, int answer, Call... calls) {
        for (Call call : calls) {
            holds(world, 0, call, answer, 0);
            holds(world, STATUS_OF_SIZE, call, answer, STATUS_OF_SIZE);
        }
    }

    /** Each call has this FINDING, which status() tells; everything else is as it was. */
    static void finds(World world, int finding, Call... calls) {
        for (Call call : calls) {
            holds(world, 0, call, finding, FINDINGS - finding);
            holds(world, STATUS_OF_SIZE, call, finding, FINDINGS - finding);
        }
    }

    /** Each call answers this without a FINDING, so that status() is 0; everything else is as it was. */
    static void clears(World world, int answer, Call... calls) {
        for (Call call : calls) {
            holds(world, 0, call, answer, 0);
            holds(world, STATUS_OF_SIZE, call, answer, 0);
        }
    }

    private static void holds(World world, int before, Call call, int answer, int after) {
        ShapeBetween s = world.make(before);
        due(call.on(s), answer);
        Map<String, Integer> want = new LinkedHashMap<>(world.survey(before));
        want.put("status", after);
        List<String> other = differences(want, survey(s));
        if (!other.isEmpty()) {
            tell("in " + world + " it changed " + other);
        }
    }

    /** The call answers this, and changes just what is told, each as "name: value"; status() is 4 ahead of it. */
    static void changes(World world, int answer, Call call, String... changed) {
        List<String> got = changesOf(world, answer, call);
        if (!new TreeSet<>(got).equals(new TreeSet<>(List.of(changed)))) {
            tell("in " + world + " it changed " + got + ", due is " + List.of(changed));
        }
    }

    /** The call answers this, and what it changes has names that begin with one of these. */
    static void changesOnly(World world, int answer, Call call, String... names) {
        for (String change : changesOf(world, answer, call)) {
            boolean told = false;
            for (String name : names) {
                told |= change.startsWith(name);
            }
            if (!told) {
                tell("in " + world + " it changed " + change);
            }
        }
    }

    private static List<String> changesOf(World world, int answer, Call call) {
        ShapeBetween s = world.make(STATUS_OF_SIZE);
        due(call.on(s), answer);
        return differences(world.survey(STATUS_OF_SIZE), survey(s));
    }

    private static List<String> differences(Map<String, Integer> before, Map<String, Integer> after) {
        List<String> found = new ArrayList<>();
        for (String name : after.keySet()) {
            if (!after.get(name).equals(before.get(name))) {
                found.add(name + ": " + after.get(name));
            }
        }
        for (String name : before.keySet()) {
            if (!after.containsKey(name)) {
                found.add(name + ": gone");
            }
        }
        return found;
    }

    /** Below the least and above the most, to the ends of int, it is refused and leaves everything; at both it answers. */
    static void bounds(World world, int refusal, CallWith call, int least, int atLeast, int most, int atMost) {
        for (int v : new int[] {MIN, least - 1, most + 1, MAX}) {
            leaves(world, refusal, s -> call.on(s, v));
        }
        due(call.on(world.make(), least), atLeast);
        due(call.on(world.make(), most), atMost);
    }

    // ---- running

    /** Runs every method of a test whose name begins with "promise", and ends with 1 if an answer was not the one due. */
    static void run(Class<?> test) {
        List<Method> methods = new ArrayList<>();
        for (Method m : test.getDeclaredMethods()) {
            if (m.getName().matches("promise\\d\\d\\w+")) {
                methods.add(m);
            }
        }
        methods.sort(Comparator.comparing(Method::getName));
        for (Method m : methods) {
            running = m.getName();
            invoke(m);
        }
        System.out.println(methods.size() + " methods, " + wrong + " answers or states not as due");
        if (wrong != 0 || methods.isEmpty()) {
            System.exit(1);
        }
    }

    private static void invoke(Method m) {
        try {
            m.setAccessible(true);
            m.invoke(null);
        } catch (IllegalAccessException | InvocationTargetException e) {
            wrong++;
            System.out.println(running + " did not end: " + e.getCause());
        }
    }
}
