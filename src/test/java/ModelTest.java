import java.math.BigInteger;
import java.util.ArrayList;
import java.util.List;
import java.util.Random;
import java.util.TreeSet;

/** Long runs of mixed calls, each answer held against a slow model that is written another way. */
public final class ModelTest {
    private static final int RUNS = 3000, CALLS = 512;
    private static final int NONE = -1000000, BAD = -1000001, STATE = -1000002, FULL = -1000003;

    public static void main(String[] args) {
        int wrong = 0;
        for (int run = 0; run < RUNS && wrong < 20; run++) {
            wrong += play(run);
        }
        System.out.println(wrong == 0 ? RUNS + " runs are as the model's" : wrong + " runs are not as the model's");
        if (wrong != 0) {
            System.exit(1);
        }
    }

    private static int play(int run) {
        ShapeBetween program = new ShapeBetween();
        Model model = new Model();
        Calls calls = new Calls(run);
        for (int i = 0; i < CALLS; i++) {
            int which = calls.which();
            int[] a = calls.arguments(which, model);
            int want = onModel(model, which, a);
            int got = onProgram(program, which, a);
            if (got != want) {
                System.out.println("run " + run + ", call " + i + ": " + Calls.NAMES[which]
                        + java.util.Arrays.toString(a) + " answered " + got + ", the model " + want);
                return 1;
            }
        }
        return 0;
    }

    private static int onProgram(ShapeBetween s, int which, int[] a) {
        switch (Calls.NAMES[which]) {
            case "sheet": return s.sheet(a[0], a[1], a[2]);
            case "set": return s.set(a[0], a[1], a[2]);
            case "copy": return s.copy(a[0], a[1], a[2], a[3], a[4]);
            case "drop": return s.drop(a[0]);
            case "mark": return s.mark(a[0], a[1], a[2], a[3]);
            case "move": return s.move(a[0], a[1], a[2], a[3]);
            case "at": return s.at(a[0], a[1], a[2], a[3]);
            case "third": return s.third(a[0], a[1], a[2]);
            case "told": return s.told(a[0], a[1]);
            case "folds": return s.folds(a[0], a[1]);
            case "first": return s.first(a[0], a[1]);
            case "sides": return s.sides(a[0]);
            case "key": return s.key(a[0], a[1]);
            case "eased": return s.eased(a[0]);
            case "unkey": return s.unkey();
            case "in": return s.in(a[0], a[1], a[2], a[3]);
            case "from": return s.from(a[0], a[1], a[2], a[3], a[4]);
            case "picture": return s.picture(a[0], a[1], a[2], a[3], a[4]);
            case "seen": return s.seen(a[0], a[1], a[2], a[3]);
            case "pairs": return s.pairs(a[0], a[1], a[2], a[3], a[4]);
            case "pair": return s.pair(a[0], a[1], a[2], a[3], a[4]);
            case "kind": return s.kind(a[0]);
            case "as": return s.as(a[0], a[1]);
            case "ask": return s.ask(a[0], a[1]);
            case "trace": return s.trace(a[0]);
            case "count": return s.count(a[0]);
            default: return s.status();
        }
    }

    private static int onModel(Model m, int which, int[] a) {
        switch (Calls.NAMES[which]) {
            case "sheet": return m.sheet(a[0], a[1], a[2]);
            case "set": return m.set(a[0], a[1], a[2]);
            case "copy": return m.copy(a[0], a[1], a[2], a[3], a[4]);
            case "drop": return m.drop(a[0]);
            case "mark": return m.mark(a);
            case "move": return m.move(a[0], a[1], a[2], a[3]);
            case "at": return m.at(a[0], a[1], a[2], a[3]);
            case "third": return m.third(a);
            case "told": return m.told(a[0], a[1]);
            case "folds": return m.folds(a[0], a[1]);
            case "first": return m.first(a[0], a[1]);
            case "sides": return m.sides(a[0]);
            case "key": return m.key(a[0], a[1]);
            case "eased": return m.eased(a[0]);
            case "unkey": return m.unkey();
            case "in": return m.in(a[0], a[1], a[2], a[3]);
            case "from": return m.from(a[0], a[1], a[2], a[3], a[4]);
            case "picture": return m.picture(a[0], a[1], a[2], a[3], a[4]);
            case "seen": return m.seen(a[0], a[1], a[2], a[3]);
            case "pairs": return m.pairs(a[0], a[1], a[2], a[3], a[4]);
            case "pair": return m.pair(a[0], a[1], a[2], a[3], a[4]);
            case "kind": return m.kind(a[0]);
            case "as": return m.as(a[0], a[1]);
            case "ask": return m.ask(a[0], a[1]);
            case "trace": return m.trace(a[0]);
            case "count": return m.count(a[0]);
            default: return m.status;
        }
    }

    /** Which calls come, with arguments that mostly fit, often lie on an edge, and sometimes are wild. */
    private static final class Calls {
        static final String[] NAMES = {"sheet", "set", "copy", "drop", "mark", "move", "at", "third", "told", "folds",
            "first", "sides", "key", "eased", "unkey", "in", "from", "picture", "seen", "pairs", "pair", "kind", "as",
            "ask", "trace", "count", "status"};
        private static final int[] WEIGHTS = {5, 14, 5, 1, 8, 6, 3, 10, 4, 4, 3, 2, 8, 6, 1, 8, 8, 6, 8, 9, 9, 4, 5, 6,
            5, 3, 8};
        private static final String[] SHAPES = {"sli", "siv", "sisij", "s", "xxxx", "mpxx", "mknb", "mmm", "tw", "tn",
            "nb", "c", "xx", "x", "", "xxkn", "xxknw", "psjdd", "xxkn", "srsrw", "srsrj", "t", "tw", "tb", "j", "c", ""};

        /** Where places and ITEMS lie; the nearer, the more of them are alike. */
        private static final int[] REACHES = {1000, 12, 200, 3};

        private final Random random;
        private final int reach;
        private final int tameness;
        private int ticks = 1;

        Calls(int run) {
            random = new Random(run);
            reach = REACHES[run % REACHES.length];
            tameness = run % 5 == 4 ? 5 : 60;
        }

        int which() {
            int sum = 0;
            for (int weight : WEIGHTS) {
                sum += weight;
            }
            int left = random.nextInt(sum);
            int which = 0;
            while (left >= WEIGHTS[which]) {
                left -= WEIGHTS[which];
                which++;
            }
            return which;
        }

        int[] arguments(int which, Model model) {
            String shape = SHAPES[which];
            int[] a = new int[shape.length()];
            ticks = random.nextInt(4) == 0 ? 1 + random.nextInt(100) : 1 + random.nextInt(6);
            for (int i = 0; i < a.length; i++) {
                a[i] = random.nextInt(tameness) == 0 ? wild() : argument(shape.charAt(i), model);
            }
            if (random.nextInt(tameness) != 0) {
                favour(NAMES[which], a, model);
            }
            return a;
        }

        /** What chance alone would seldom bring about: MARKS that stay, KEYS that rise. */
        private void favour(String name, int[] a, Model model) {
            if (name.equals("mark") && random.nextBoolean()) {
                a[2] = a[0];
                a[3] = a[1];
            }
            if (name.equals("move") && random.nextInt(3) == 0 && a[0] >= 0 && a[0] < model.marks.size()) {
                int other = a[1] == 0 ? 2 : 0;
                a[2] = model.marks.get(a[0])[other];
                a[3] = model.marks.get(a[0])[other + 1];
            }
            if (name.equals("key") && random.nextInt(4) != 0 && !model.keys.isEmpty()) {
                int[] last = model.keys.get(model.keys.size() - 1);
                a[0] = last[0] + random.nextInt(4);
                a[1] = last[1] + random.nextInt(4) - 1;
            }
        }

        private int wild() {
            int[] wild = {-1, -2, 0, 1, 2, 3, 4, 5, 6, 7, 8, 12, 13, 16, 24, 25, 30, 31, 100, 101, 144, 145, 255, 256,
                1000, 1001, Integer.MAX_VALUE, Integer.MIN_VALUE, Integer.MAX_VALUE - 1, 1 << 30, -(1 << 30)};
            return wild[random.nextInt(wild.length)];
        }

        private int argument(char shape, Model model) {
            switch (shape) {
                case 's': return random.nextInt(3);
                case 'l': return random.nextInt(4) == 0 ? random.nextInt(3) : 2;
                case 'i': return random.nextInt(random.nextInt(3) == 0 ? 145 : 14);
                case 'j': return random.nextInt(8);
                case 'v': return random.nextInt(20) == 0 ? random.nextInt() : random.nextInt(reach == 1000 ? 256 : reach);
                case 'x': return random.nextInt(6) == 0 ? reach * random.nextInt(2) : random.nextInt(reach + 1);
                case 'm': return random.nextInt(Math.max(1, model.marks.size()));
                case 't': return random.nextInt(Math.max(1, model.thirds.size()));
                case 'k': return random.nextInt(ticks + 1);
                case 'n': return ticks;
                case 'p': case 'b': return random.nextInt(2);
                case 'w': return random.nextInt(4) == 0 ? 4 : random.nextInt(4);
                case 'c': return random.nextInt(9);
                case 'd': return 1 + random.nextInt(random.nextInt(4) == 0 ? 12 : 3);
                case 'r': return 1 + random.nextInt(random.nextInt(6) == 0 ? 30 : 5);
                default: throw new IllegalStateException("no such shape");
            }
        }
    }

    /** The document, taken down without a care for speed. */
    private static final class Model {
        final Object[] sheets = new Object[8];
        final List<int[]> marks = new ArrayList<>();
        final List<int[]> thirds = new ArrayList<>();
        final List<int[]> keys = new ArrayList<>();
        final int[][][] pictures = new int[2][][];
        List<Integer> trace = new ArrayList<>();
        int status = 0;

        private int found(int number) {
            status = number;
            return -1000010 - number;
        }

        private int fine(int answer) {
            status = 0;
            return answer;
        }

        private static boolean within(int v, int least, int most) {
            return least <= v && v <= most;
        }

        private int length(int sheet) {
            return java.lang.reflect.Array.getLength(sheets[sheet]);
        }

        private int item(int sheet, int i) {
            return java.lang.reflect.Array.getInt(sheets[sheet], i);
        }

        int sheet(int sheet, int lane, int n) {
            if (!within(sheet, 0, 7) || !within(lane, 0, 2) || n > 144) {
                return BAD;
            }
            if (n < 0) {
                return found(4);
            }
            sheets[sheet] = lane == 0 ? new byte[n] : lane == 1 ? new short[n] : new int[n];
            return fine(n);
        }

        int set(int sheet, int i, int v) {
            if (!within(sheet, 0, 7)) {
                return BAD;
            }
            if (sheets[sheet] == null) {
                return found(1);
            }
            if (!within(i, 0, length(sheet) - 1)) {
                return found(2);
            }
            if (sheets[sheet] instanceof byte[] bytes) {
                bytes[i] = (byte) v;
            } else if (sheets[sheet] instanceof short[] shorts) {
                shorts[i] = (short) v;
            } else {
                ((int[]) sheets[sheet])[i] = v;
            }
            return fine(item(sheet, i));
        }

        int copy(int a, int i, int b, int j, int n) {
            if (!within(a, 0, 7) || !within(b, 0, 7)) {
                return BAD;
            }
            try {
                System.arraycopy(sheets[a], i, sheets[b], j, n);
            } catch (NullPointerException e) {
                return found(1);
            } catch (ArrayStoreException e) {
                return found(5);
            } catch (IndexOutOfBoundsException e) {
                return found(2);
            }
            return fine(n);
        }

        int drop(int sheet) {
            if (!within(sheet, 0, 7)) {
                return BAD;
            }
            if (sheets[sheet] == null) {
                return found(1);
            }
            int length = length(sheet);
            sheets[sheet] = null;
            return fine(length);
        }

        int mark(int[] a) {
            for (int v : a) {
                if (!within(v, 0, 1000)) {
                    return BAD;
                }
            }
            if (marks.size() == 16) {
                return FULL;
            }
            marks.add(a.clone());
            return marks.size() - 1;
        }

        int move(int mark, int picture, int x, int y) {
            if (!within(mark, 0, marks.size() - 1) || !within(picture, 0, 1) || !within(x, 0, 1000) || !within(y, 0, 1000)) {
                return BAD;
            }
            marks.get(mark)[2 * picture] = x;
            marks.get(mark)[2 * picture + 1] = y;
            return 1;
        }

        private static boolean tick(int k, int n) {
            return within(n, 1, 100) && within(k, 0, n);
        }

        int at(int mark, int k, int n, int what) {
            if (!within(mark, 0, marks.size() - 1) || !tick(k, n) || !within(what, 0, 1)) {
                return BAD;
            }
            return (int) place(mark, k, n)[what];
        }

        private long[] place(int mark, int k, int n) {
            int[] m = marks.get(mark);
            return new long[] {(long) n * m[0] + (long) k * (m[2] - m[0]), (long) n * m[1] + (long) k * (m[3] - m[1])};
        }

        int third(int[] a) {
            TreeSet<Integer> set = new TreeSet<>();
            for (int mark : a) {
                if (!within(mark, 0, marks.size() - 1) || !set.add(mark)) {
                    return BAD;
                }
            }
            for (int[] t : thirds) {
                if (new TreeSet<>(List.of(t[0], t[1], t[2])).equals(set)) {
                    return STATE;
                }
            }
            if (thirds.size() == 24) {
                return FULL;
            }
            thirds.add(a.clone());
            return thirds.size() - 1;
        }

        /** By the shoelace: the sum of what each side spans from the origin. */
        private static long area(long[] a, long[] b, long[] c) {
            return a[0] * b[1] - b[0] * a[1] + b[0] * c[1] - c[0] * b[1] + c[0] * a[1] - a[0] * c[1];
        }

        private long[][] corners(int third, int k, int n) {
            int[] t = thirds.get(third);
            return new long[][] {place(t[0], k, n), place(t[1], k, n), place(t[2], k, n)};
        }

        private long area(int third, int k, int n) {
            long[][] c = corners(third, k, n);
            return area(c[0], c[1], c[2]);
        }

        private boolean isThird(int third) {
            return within(third, 0, thirds.size() - 1);
        }

        int told(int third, int what) {
            if (!isThird(third) || !within(what, 0, 4)) {
                return BAD;
            }
            return what < 3 ? thirds.get(third)[what] : (int) area(third, what - 3, 1);
        }

        int folds(int third, int n) {
            if (!isThird(third) || !within(n, 1, 100)) {
                return BAD;
            }
            int tick = NONE;
            for (int k = n; k >= 0; k--) {
                tick = area(third, k, n) > 0 ? tick : k;
            }
            return tick;
        }

        int first(int n, int what) {
            if (!within(n, 1, 100) || !within(what, 0, 1)) {
                return BAD;
            }
            int least = Integer.MAX_VALUE;
            int which = NONE;
            for (int third = 0; third < thirds.size(); third++) {
                int tick = folds(third, n);
                if (tick != NONE && tick < least) {
                    least = tick;
                    which = third;
                }
            }
            return which == NONE || what == 1 ? which : least;
        }

        int sides(int many) {
            if (!within(many, 1, 24)) {
                return BAD;
            }
            int[][] meet = new int[16][16];
            for (int[] t : thirds) {
                for (int i = 0; i < 3; i++) {
                    int a = t[i];
                    int b = t[(i + 1) % 3];
                    meet[Math.min(a, b)][Math.max(a, b)]++;
                }
            }
            int sides = 0;
            for (int[] row : meet) {
                for (int v : row) {
                    sides += v == many ? 1 : 0;
                }
            }
            return sides;
        }

        int key(int time, int share) {
            if (!within(time, 0, 1000) || !within(share, 0, 1000)) {
                return BAD;
            }
            if (!keys.isEmpty()) {
                int[] last = keys.get(keys.size() - 1);
                if (time <= last[0] || share < last[1]) {
                    return STATE;
                }
            }
            if (keys.size() == 6) {
                return FULL;
            }
            keys.add(new int[] {time, share});
            return keys.size();
        }

        int eased(int time) {
            if (!within(time, 0, 1000)) {
                return BAD;
            }
            if (keys.isEmpty()) {
                return time;
            }
            int[] ahead = null;
            int[] behind = null;
            for (int[] key : keys) {
                if (key[0] <= time) {
                    ahead = key;
                } else if (behind == null) {
                    behind = key;
                }
            }
            if (ahead == null) {
                return behind[1];
            }
            if (behind == null) {
                return ahead[1];
            }
            return ahead[1] + (behind[1] - ahead[1]) * (time - ahead[0]) / (behind[0] - ahead[0]);
        }

        int unkey() {
            int many = keys.size();
            keys.clear();
            return many;
        }

        int in(int x, int y, int k, int n) {
            if (!within(x, 0, 1000) || !within(y, 0, 1000) || !tick(k, n)) {
                return BAD;
            }
            for (int third = 0; third < thirds.size(); third++) {
                long[] s = shares(third, x, y, k, n);
                if (area(third, k, n) > 0 && s[0] >= 0 && s[1] >= 0 && s[2] >= 0) {
                    return third;
                }
            }
            return NONE;
        }

        private long[] shares(int third, int x, int y, int k, int n) {
            long[] shares = new long[3];
            for (int i = 0; i < 3; i++) {
                long[][] c = corners(third, k, n);
                c[i] = new long[] {(long) x * n, (long) y * n};
                shares[i] = area(c[0], c[1], c[2]);
            }
            return shares;
        }

        int from(int x, int y, int k, int n, int what) {
            int third = in(x, y, k, n);
            if (!within(what, 0, 3) || third == BAD) {
                return BAD;
            }
            if (third == NONE) {
                return NONE;
            }
            long[] shares = shares(third, x, y, k, n);
            BigInteger sum = BigInteger.ZERO;
            for (int i = 0; i < 3; i++) {
                int v = marks.get(thirds.get(third)[i])[what];
                sum = sum.add(BigInteger.valueOf(shares[i]).multiply(BigInteger.valueOf(v)));
            }
            return sum.divide(BigInteger.valueOf(area(third, k, n))).intValueExact();
        }

        int picture(int s, int sheet, int i, int w, int h) {
            if (!within(s, 0, 1) || !within(sheet, 0, 7) || !within(w, 1, 12) || !within(h, 1, 12)) {
                return BAD;
            }
            if (sheets[sheet] == null) {
                return found(1);
            }
            if (i < 0 || (long) i + w * h > length(sheet)) {
                return found(2);
            }
            int[][] rows = new int[h][w];
            for (int cell = 0; cell < w * h; cell++) {
                rows[cell / w][cell % w] = item(sheet, i + cell);
                if (!within(item(sheet, i + cell), 0, 255)) {
                    return BAD;
                }
            }
            pictures[s] = rows;
            return fine(1);
        }

        int seen(int x, int y, int k, int n) {
            int third = in(x, y, k, n);
            if (third == BAD) {
                return BAD;
            }
            if (pictures[0] == null || pictures[1] == null) {
                return STATE;
            }
            if (third == NONE) {
                return NONE;
            }
            int[] numbers = new int[2];
            for (int s = 0; s < 2; s++) {
                int fromX = from(x, y, k, n, 2 * s);
                int fromY = from(x, y, k, n, 2 * s + 1);
                numbers[s] = pictures[s][fromY * pictures[s].length / 1001][fromX * pictures[s][0].length / 1001];
            }
            return ((n - k) * numbers[0] + k * numbers[1]) / n;
        }

        private int rows(int a, int na, int b, int nb) {
            if (!within(a, 0, 7) || !within(b, 0, 7) || !within(na, 1, 30) || !within(nb, 1, 30)) {
                return BAD;
            }
            for (int sheet : new int[] {a, b}) {
                if (sheets[sheet] == null) {
                    return found(1);
                }
            }
            if (2 * na > length(a) || 2 * nb > length(b)) {
                return found(2);
            }
            for (int i = 0; i < 2 * na; i++) {
                if (!within(item(a, i), 0, 1000)) {
                    return BAD;
                }
            }
            for (int i = 0; i < 2 * nb; i++) {
                if (!within(item(b, i), 0, 1000)) {
                    return BAD;
                }
            }
            return 0;
        }

        int pairs(int a, int na, int b, int nb, int what) {
            if (!within(what, 0, 3)) {
                return BAD;
            }
            int refused = rows(a, na, b, nb);
            if (refused != 0) {
                return refused;
            }
            List<int[]> way = way(a, na, b, nb);
            int cost = 0;
            int[] meetA = new int[na];
            int[] meetB = new int[nb];
            for (int[] p : way) {
                cost += apart(a, p[0], b, p[1]);
                meetA[p[0]]++;
                meetB[p[1]]++;
            }
            int splits = (int) java.util.Arrays.stream(meetB).filter(v -> v > 1).count();
            int joins = (int) java.util.Arrays.stream(meetA).filter(v -> v > 1).count();
            return fine(new int[] {cost, way.size(), splits, joins}[what]);
        }

        int pair(int a, int na, int b, int nb, int i) {
            int refused = rows(a, na, b, nb);
            if (refused != 0) {
                return refused;
            }
            List<int[]> way = way(a, na, b, nb);
            return fine(within(i, 0, way.size() - 1) ? way.get(i)[0] * 100 + way.get(i)[1] : NONE);
        }

        private int apart(int a, int i, int b, int j) {
            return Math.abs(item(a, 2 * i) - item(b, 2 * j)) + Math.abs(item(a, 2 * i + 1) - item(b, 2 * j + 1));
        }

        /** Short rows by going every way there is; long ones by what each step back costs at least. */
        private List<int[]> way(int a, int na, int b, int nb) {
            if (na > 5 || nb > 5) {
                return wayByCosts(a, na, b, nb);
            }
            Best best = new Best();
            List<int[]> back = new ArrayList<>();
            everyWay(a, na - 1, b, nb - 1, 0, back, best);
            java.util.Collections.reverse(best.back);
            return best.back;
        }

        private static final class Best {
            int cost = Integer.MAX_VALUE;
            List<int[]> back = new ArrayList<>();
        }

        /** From the end back, the liked steps first, so that of ways at one cost the first one stays. */
        private void everyWay(int a, int i, int b, int j, int cost, List<int[]> back, Best best) {
            if (i < 0 || j < 0) {
                return;
            }
            int now = cost + apart(a, i, b, j);
            back.add(new int[] {i, j});
            if (i == 0 && j == 0 && now < best.cost) {
                best.cost = now;
                best.back = new ArrayList<>(back);
            }
            everyWay(a, i - 1, b, j - 1, now, back, best);
            everyWay(a, i - 1, b, j, now, back, best);
            everyWay(a, i, b, j - 1, now, back, best);
            back.remove(back.size() - 1);
        }

        private List<int[]> wayByCosts(int a, int na, int b, int nb) {
            long[][] cost = new long[na + 1][nb + 1];
            for (int i = 0; i <= na; i++) {
                for (int j = 0; j <= nb; j++) {
                    if (i == 0 || j == 0) {
                        cost[i][j] = i == j ? 0 : Integer.MAX_VALUE;
                    } else {
                        long ahead = Math.min(cost[i - 1][j - 1], Math.min(cost[i - 1][j], cost[i][j - 1]));
                        cost[i][j] = ahead + apart(a, i - 1, b, j - 1);
                    }
                }
            }
            List<int[]> way = new ArrayList<>();
            int i = na;
            int j = nb;
            while (i > 0 && j > 0) {
                way.add(0, new int[] {i - 1, j - 1});
                long ahead = cost[i][j] - apart(a, i - 1, b, j - 1);
                if (cost[i - 1][j - 1] == ahead) {
                    i--;
                    j--;
                } else if (cost[i - 1][j] == ahead) {
                    i--;
                } else {
                    j--;
                }
            }
            return way;
        }

        private boolean is(int third, int kind) {
            long area0 = area(third, 0, 1);
            long area1 = area(third, 1, 1);
            boolean still = true;
            for (int mark : thirds.get(third)) {
                int[] m = marks.get(mark);
                still = still && m[0] == m[2] && m[1] == m[3];
            }
            switch (kind) {
                case 0: return true;
                case 1: return area0 > 0 && area1 > 0;
                case 2: return is(third, 1) && still;
                case 3: return area0 == 0 || area1 == 0;
                default: return (area0 < 0 || area1 < 0) && area0 != 0 && area1 != 0;
            }
        }

        int kind(int third) {
            if (!isThird(third)) {
                return BAD;
            }
            for (int kind : new int[] {2, 1, 3, 4}) {
                if (is(third, kind)) {
                    return kind;
                }
            }
            throw new IllegalStateException("a THIRD of no KIND");
        }

        int as(int third, int kind) {
            if (!isThird(third) || !within(kind, 0, 4)) {
                return BAD;
            }
            return is(third, kind) ? fine((int) area(third, 1, 1)) : found(3);
        }

        int ask(int third, int what) {
            if (!isThird(third) || !within(what, 0, 1)) {
                return BAD;
            }
            trace = new ArrayList<>();
            return what == 0 ? size(third) : number(third);
        }

        private int size(int third) {
            int[] bodies = {10, 11, 12, 13, 10};
            return body(bodies[kind(third)], third);
        }

        private int number(int third) {
            int[] bodies = {20, 21, 21, 20, 22};
            return body(bodies[kind(third)], third);
        }

        private int body(int body, int third) {
            trace.add(body);
            int[] t = thirds.get(third);
            switch (body) {
                case 10: return (int) (area(third, 0, 1) / 2);
                case 11: return body(10, third) + (int) (area(third, 1, 1) / 2);
                case 12: return body(11, third) + number(third);
                case 13: return 0;
                case 20: return t[0] + t[1] + t[2];
                case 21: return body(20, third) + 100;
                default: return body(20, third) + size(third);
            }
        }

        int trace(int i) {
            return within(i, 0, Math.min(trace.size(), 16) - 1) ? trace.get(i) : NONE;
        }

        int count(int what) {
            int[] counts = new int[8];
            for (Object sheet : sheets) {
                counts[0] += sheet == null ? 0 : 1;
            }
            counts[1] = marks.size();
            counts[2] = thirds.size();
            for (int third = 0; third < thirds.size(); third++) {
                for (int kind = 1; kind <= 4; kind++) {
                    counts[2 + kind] += is(third, kind) ? 1 : 0;
                }
            }
            counts[7] = keys.size();
            return within(what, 0, 7) ? counts[what] : BAD;
        }
    }
}
