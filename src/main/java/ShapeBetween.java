/** Shapes between the shapes of two pictures. DOC.md's promises 1 to 28 say what each call answers. */
public final class ShapeBetween {
    public static final int NONE = -1000000, BAD = -1000001, STATE = -1000002, FULL = -1000003;

    private static final int FINDINGS = -1000010;
    private static final int NO_FINDING = 0, NULL = 1, PLACE = 2, KIND = 3, SIZE = 4, STORE = 5;
    private static final int THIRD = 0, SOUND = 1, STILL = 2, FLAT = 3, TURNED = 4;
    private static final int FARTHEST = 1000, MOST_TICKS = 100, BRIGHTEST = 255;

    private final Sheets sheets = new Sheets();
    private final Marks marks = new Marks();
    private final Thirds thirds = new Thirds(marks);
    private final Easing easing = new Easing();
    private final Between between = new Between(marks, thirds);
    private final Pictures pictures = new Pictures();
    private final Pairing pairing = new Pairing(sheets);
    private final Asks asks = new Asks(thirds);
    private int finding = NO_FINDING;

    public ShapeBetween() {
    }

    // ---- sheets

    public int sheet(int sheet, int lane, int n) {
        if (!Sheets.isSheet(sheet) || !Sheets.isLane(lane) || n > Sheets.MOST_ITEMS) {
            return BAD;
        }
        if (n < 0) {
            return found(SIZE);
        }
        sheets.lay(sheet, lane, n);
        return answered(n);
    }

    public int set(int sheet, int i, int v) {
        if (!Sheets.isSheet(sheet)) {
            return BAD;
        }
        if (sheets.isMissing(sheet)) {
            return found(NULL);
        }
        if (!sheets.hasItems(sheet, i, 1)) {
            return found(PLACE);
        }
        sheets.put(sheet, i, v);
        return answered(sheets.item(sheet, i));
    }

    public int copy(int a, int i, int b, int j, int n) {
        if (!Sheets.isSheet(a) || !Sheets.isSheet(b)) {
            return BAD;
        }
        if (sheets.isMissing(a) || sheets.isMissing(b)) {
            return found(NULL);
        }
        if (sheets.laneOf(a) != sheets.laneOf(b)) {
            return found(STORE);
        }
        if (!sheets.hasItems(a, i, n) || !sheets.hasItems(b, j, n)) {
            return found(PLACE);
        }
        sheets.carry(a, i, b, j, n);
        return answered(n);
    }

    public int drop(int sheet) {
        if (!Sheets.isSheet(sheet)) {
            return BAD;
        }
        if (sheets.isMissing(sheet)) {
            return found(NULL);
        }
        return answered(sheets.takeAway(sheet));
    }

    // ---- marks, thirds

    public int mark(int x0, int y0, int x1, int y1) {
        if (!isPlace(x0, y0) || !isPlace(x1, y1)) {
            return BAD;
        }
        if (marks.isFull()) {
            return FULL;
        }
        return marks.add(x0, y0, x1, y1);
    }

    public int move(int mark, int picture, int x, int y) {
        if (!marks.isMark(mark) || !isPicture(picture) || !isPlace(x, y)) {
            return BAD;
        }
        marks.put(mark, picture, x, y);
        return 1;
    }

    public int at(int mark, int k, int n, int what) {
        if (!marks.isMark(mark) || !isTick(k, n) || !isWithin(what, 0, 1)) {
            return BAD;
        }
        return what == 0 ? marks.tickX(mark, k, n) : marks.tickY(mark, k, n);
    }

    public int third(int a, int b, int c) {
        if (!marks.isMark(a) || !marks.isMark(b) || !marks.isMark(c) || a == b || b == c || a == c) {
            return BAD;
        }
        if (thirds.areJoined(a, b, c)) {
            return STATE;
        }
        if (thirds.isFull()) {
            return FULL;
        }
        return thirds.add(a, b, c);
    }

    public int told(int third, int what) {
        if (!thirds.isThird(third) || !isWithin(what, 0, 4)) {
            return BAD;
        }
        return what < 3 ? thirds.corner(third, what) : thirds.areaIn(third, what - 3);
    }

    public int folds(int third, int n) {
        if (!thirds.isThird(third) || !isTicks(n)) {
            return BAD;
        }
        return thirds.foldTick(third, n);
    }

    public int first(int n, int what) {
        if (!isTicks(n) || !isWithin(what, 0, 1)) {
            return BAD;
        }
        int folded = thirds.firstFolded(n);
        if (folded == NONE || what == 1) {
            return folded;
        }
        return thirds.foldTick(folded, n);
    }

    public int sides(int many) {
        if (!isWithin(many, 1, Thirds.MOST)) {
            return BAD;
        }
        return thirds.sidesOf(many);
    }

    // ---- between

    public int key(int time, int share) {
        if (!isPlace(time, share)) {
            return BAD;
        }
        if (!easing.rises(time, share)) {
            return STATE;
        }
        if (easing.isFull()) {
            return FULL;
        }
        return easing.add(time, share);
    }

    public int eased(int time) {
        if (!isWithin(time, 0, FARTHEST)) {
            return BAD;
        }
        return easing.shareAt(time);
    }

    public int unkey() {
        return easing.takeAway();
    }

    public int in(int x, int y, int k, int n) {
        if (!isPlace(x, y) || !isTick(k, n)) {
            return BAD;
        }
        return between.find(x, y, k, n);
    }

    public int from(int x, int y, int k, int n, int what) {
        if (!isPlace(x, y) || !isTick(k, n) || !isWithin(what, 0, 3)) {
            return BAD;
        }
        if (between.find(x, y, k, n) == NONE) {
            return NONE;
        }
        int picture = what / 2;
        return what % 2 == 0 ? between.originX(picture) : between.originY(picture);
    }

    public int picture(int s, int sheet, int i, int w, int h) {
        if (!isPicture(s) || !Sheets.isSheet(sheet) || !Pictures.isSize(w, h)) {
            return BAD;
        }
        if (sheets.isMissing(sheet)) {
            return found(NULL);
        }
        if (!sheets.hasItems(sheet, i, w * h)) {
            return found(PLACE);
        }
        if (!sheets.allWithin(sheet, i, w * h, BRIGHTEST)) {
            return BAD;
        }
        pictures.take(s, sheets, sheet, i, w, h);
        return answered(1);
    }

    public int seen(int x, int y, int k, int n) {
        if (!isPlace(x, y) || !isTick(k, n)) {
            return BAD;
        }
        if (!pictures.isTold(0) || !pictures.isTold(1)) {
            return STATE;
        }
        if (between.find(x, y, k, n) == NONE) {
            return NONE;
        }
        return ((n - k) * numberFrom(0) + k * numberFrom(1)) / n;
    }

    // ---- rows paired

    public int pairs(int a, int na, int b, int nb, int what) {
        if (!isWithin(what, 0, 3)) {
            return BAD;
        }
        int refusal = refusalOfRows(a, na, b, nb);
        if (refusal != NO_FINDING) {
            return refusal;
        }
        pairing.join(a, na, b, nb);
        return answered(pairing.tell(what));
    }

    public int pair(int a, int na, int b, int nb, int i) {
        int refusal = refusalOfRows(a, na, b, nb);
        if (refusal != NO_FINDING) {
            return refusal;
        }
        pairing.join(a, na, b, nb);
        return answered(pairing.met(i));
    }

    // ---- asked

    public int kind(int third) {
        if (!thirds.isThird(third)) {
            return BAD;
        }
        return thirds.kindOf(third);
    }

    public int as(int third, int kind) {
        if (!thirds.isThird(third) || !isWithin(kind, THIRD, TURNED)) {
            return BAD;
        }
        if (!thirds.isOf(third, kind)) {
            return found(KIND);
        }
        return answered(thirds.areaIn(third, 1));
    }

    public int ask(int third, int what) {
        if (!thirds.isThird(third) || !isWithin(what, 0, 1)) {
            return BAD;
        }
        asks.clear();
        return what == 0 ? asks.sizeOf(third) : asks.markOf(third);
    }

    public int trace(int i) {
        return asks.traced(i);
    }

    public int count(int what) {
        switch (what) {
            case 0: return sheets.many();
            case 1: return marks.many();
            case 2: return thirds.many();
            case 3: return thirds.manyOf(SOUND);
            case 4: return thirds.manyOf(STILL);
            case 5: return thirds.manyOf(FLAT);
            case 6: return thirds.manyOf(TURNED);
            case 7: return easing.many();
            default: return BAD;
        }
    }

    public int status() {
        return finding;
    }

    // ---- helpers

    private int found(int number) {
        finding = number;
        return FINDINGS - number;
    }

    private int answered(int answer) {
        finding = NO_FINDING;
        return answer;
    }

    /** NO_FINDING, if the two rows can be paired. */
    private int refusalOfRows(int a, int na, int b, int nb) {
        if (!Sheets.isSheet(a) || !Sheets.isSheet(b) || !Pairing.isRow(na) || !Pairing.isRow(nb)) {
            return BAD;
        }
        if (sheets.isMissing(a) || sheets.isMissing(b)) {
            return found(NULL);
        }
        if (!sheets.hasItems(a, 0, 2 * na) || !sheets.hasItems(b, 0, 2 * nb)) {
            return found(PLACE);
        }
        if (!sheets.allWithin(a, 0, 2 * na, FARTHEST) || !sheets.allWithin(b, 0, 2 * nb, FARTHEST)) {
            return BAD;
        }
        return NO_FINDING;
    }

    /** The number in a picture of where the place found last is FROM. */
    private int numberFrom(int picture) {
        return pictures.numberAt(picture, between.originX(picture), between.originY(picture));
    }

    private static boolean isWithin(int v, int least, int most) {
        return v >= least && v <= most;
    }

    private static boolean isPlace(int x, int y) {
        return isWithin(x, 0, FARTHEST) && isWithin(y, 0, FARTHEST);
    }

    private static boolean isPicture(int picture) {
        return isWithin(picture, 0, 1);
    }

    private static boolean isTicks(int n) {
        return isWithin(n, 1, MOST_TICKS);
    }

    private static boolean isTick(int k, int n) {
        return isTicks(n) && isWithin(k, 0, n);
    }

    /** SHEETS, all in one row of items, so that laying one anew makes no new array. */
    private static final class Sheets {
        static final int MOST = 8, MOST_ITEMS = 144;
        private static final int BYTES = 0, SHORTS = 1, INTS = 2;
        private static final int MISSING = -1;

        private final int[] lanes = new int[MOST];
        private final int[] lengths = new int[MOST];
        private final int[] items = new int[MOST * MOST_ITEMS];

        Sheets() {
            for (int sheet = 0; sheet < MOST; sheet++) {
                lengths[sheet] = MISSING;
            }
        }

        static boolean isSheet(int sheet) {
            return isWithin(sheet, 0, MOST - 1);
        }

        static boolean isLane(int lane) {
            return isWithin(lane, BYTES, INTS);
        }

        boolean isMissing(int sheet) {
            return lengths[sheet] == MISSING;
        }

        /** Subtracts from the length, since a sum of i and n could wrap around. */
        boolean hasItems(int sheet, int i, int n) {
            return i >= 0 && n >= 0 && i <= lengths[sheet] - n;
        }

        boolean allWithin(int sheet, int i, int n, int most) {
            for (int at = i; at < i + n; at++) {
                if (!isWithin(item(sheet, at), 0, most)) {
                    return false;
                }
            }
            return true;
        }

        int laneOf(int sheet) {
            return lanes[sheet];
        }

        int item(int sheet, int i) {
            return items[sheet * MOST_ITEMS + i];
        }

        void lay(int sheet, int lane, int n) {
            lanes[sheet] = lane;
            lengths[sheet] = n;
            for (int i = 0; i < n; i++) {
                items[sheet * MOST_ITEMS + i] = 0;
            }
        }

        void put(int sheet, int i, int v) {
            items[sheet * MOST_ITEMS + i] = cutToLane(lanes[sheet], v);
        }

        /** arraycopy takes ITEMS as they were ahead, even where the two runs overlap. */
        void carry(int a, int i, int b, int j, int n) {
            System.arraycopy(items, a * MOST_ITEMS + i, items, b * MOST_ITEMS + j, n);
        }

        int takeAway(int sheet) {
            int length = lengths[sheet];
            lengths[sheet] = MISSING;
            return length;
        }

        int many() {
            int many = 0;
            for (int sheet = 0; sheet < MOST; sheet++) {
                if (!isMissing(sheet)) {
                    many++;
                }
            }
            return many;
        }

        private static int cutToLane(int lane, int v) {
            if (lane == BYTES) {
                return (byte) v;
            }
            return lane == SHORTS ? (short) v : v;
        }
    }

    /** MARKS: those of picture 0 in the first half of each row, those of picture 1 in the second. */
    private static final class Marks {
        static final int MOST = 16;

        private int many = 0;
        private final int[] xs = new int[2 * MOST];
        private final int[] ys = new int[2 * MOST];

        int many() {
            return many;
        }

        boolean isFull() {
            return many >= MOST;
        }

        boolean isMark(int mark) {
            return mark >= 0 && mark < many;
        }

        int add(int x0, int y0, int x1, int y1) {
            int mark = many;
            many++;
            put(mark, 0, x0, y0);
            put(mark, 1, x1, y1);
            return mark;
        }

        void put(int mark, int picture, int x, int y) {
            xs[picture * MOST + mark] = x;
            ys[picture * MOST + mark] = y;
        }

        int x(int mark, int picture) {
            return xs[picture * MOST + mark];
        }

        int y(int mark, int picture) {
            return ys[picture * MOST + mark];
        }

        int tickX(int mark, int k, int n) {
            return (n - k) * x(mark, 0) + k * x(mark, 1);
        }

        int tickY(int mark, int k, int n) {
            return (n - k) * y(mark, 0) + k * y(mark, 1);
        }

        boolean stays(int mark) {
            return x(mark, 0) == x(mark, 1) && y(mark, 0) == y(mark, 1);
        }

        /** In longs, since places told times 100 reach areas of 10,000,000,000. */
        static long area(long ax, long ay, long bx, long by, long cx, long cy) {
            return (bx - ax) * (cy - ay) - (by - ay) * (cx - ax);
        }
    }

    /** THIRDS: three MARKS each, side by side in one row. */
    private static final class Thirds {
        static final int MOST = 24;

        private final Marks marks;
        private int many = 0;
        private final int[] corners = new int[3 * MOST];

        Thirds(Marks marks) {
            this.marks = marks;
        }

        int many() {
            return many;
        }

        boolean isFull() {
            return many >= MOST;
        }

        boolean isThird(int third) {
            return third >= 0 && third < many;
        }

        int add(int a, int b, int c) {
            int third = many;
            many++;
            corners[3 * third] = a;
            corners[3 * third + 1] = b;
            corners[3 * third + 2] = c;
            return third;
        }

        int corner(int third, int which) {
            return corners[3 * third + which];
        }

        boolean touches(int third, int mark) {
            return corner(third, 0) == mark || corner(third, 1) == mark || corner(third, 2) == mark;
        }

        boolean areJoined(int a, int b, int c) {
            for (int third = 0; third < many; third++) {
                if (touches(third, a) && touches(third, b) && touches(third, c)) {
                    return true;
                }
            }
            return false;
        }

        /** The AREA at a TICK, of places told times n. */
        long tickArea(int third, int k, int n) {
            int a = corner(third, 0);
            int b = corner(third, 1);
            int c = corner(third, 2);
            return Marks.area(marks.tickX(a, k, n), marks.tickY(a, k, n),
                    marks.tickX(b, k, n), marks.tickY(b, k, n),
                    marks.tickX(c, k, n), marks.tickY(c, k, n));
        }

        /** An int holds it: no AREA of three places within a picture is above 1,000,000. */
        int areaIn(int third, int picture) {
            int a = corner(third, 0);
            int b = corner(third, 1);
            int c = corner(third, 2);
            return (int) Marks.area(marks.x(a, picture), marks.y(a, picture),
                    marks.x(b, picture), marks.y(b, picture),
                    marks.x(c, picture), marks.y(c, picture));
        }

        boolean isUpright(int third, int k, int n) {
            return tickArea(third, k, n) > 0;
        }

        int foldTick(int third, int n) {
            for (int k = 0; k <= n; k++) {
                if (!isUpright(third, k, n)) {
                    return k;
                }
            }
            return NONE;
        }

        /** The least THIRD of those that FOLD at the least TICK. */
        int firstFolded(int n) {
            for (int k = 0; k <= n; k++) {
                for (int third = 0; third < many; third++) {
                    if (!isUpright(third, k, n)) {
                        return third;
                    }
                }
            }
            return NONE;
        }

        int sidesOf(int wanted) {
            int sides = 0;
            for (int a = 0; a < marks.many(); a++) {
                for (int b = a + 1; b < marks.many(); b++) {
                    if (thirdsAtSide(a, b) == wanted) {
                        sides++;
                    }
                }
            }
            return sides;
        }

        private int thirdsAtSide(int a, int b) {
            int at = 0;
            for (int third = 0; third < many; third++) {
                if (touches(third, a) && touches(third, b)) {
                    at++;
                }
            }
            return at;
        }

        int kindOf(int third) {
            int before = areaIn(third, 0);
            int after = areaIn(third, 1);
            if (before > 0 && after > 0) {
                return staysWhole(third) ? STILL : SOUND;
            }
            return before == 0 || after == 0 ? FLAT : TURNED;
        }

        private boolean staysWhole(int third) {
            return marks.stays(corner(third, 0)) && marks.stays(corner(third, 1)) && marks.stays(corner(third, 2));
        }

        boolean isOf(int third, int kind) {
            int own = kindOf(third);
            return kind == THIRD || kind == own || (kind == SOUND && own == STILL);
        }

        int manyOf(int kind) {
            int found = 0;
            for (int third = 0; third < many; third++) {
                if (isOf(third, kind)) {
                    found++;
                }
            }
            return found;
        }
    }

    /** EASING by KEYS. */
    private static final class Easing {
        private static final int MOST = 6;

        private int many = 0;
        private final int[] times = new int[MOST];
        private final int[] shares = new int[MOST];

        int many() {
            return many;
        }

        boolean isFull() {
            return many >= MOST;
        }

        boolean rises(int time, int share) {
            return many == 0 || (time > times[many - 1] && share >= shares[many - 1]);
        }

        int add(int time, int share) {
            times[many] = time;
            shares[many] = share;
            many++;
            return many;
        }

        int takeAway() {
            int had = many;
            many = 0;
            return had;
        }

        int shareAt(int time) {
            if (many == 0) {
                return time;
            }
            if (time < times[0]) {
                return shares[0];
            }
            for (int next = 1; next < many; next++) {
                if (time < times[next]) {
                    return shareBetween(next - 1, next, time);
                }
            }
            return shares[many - 1];
        }

        /** Asked only of a time that is not before the first KEY and is before the next: they are apart. */
        private int shareBetween(int first, int next, int time) {
            int rise = shares[next] - shares[first];
            return shares[first] + rise * (time - times[first]) / (times[next] - times[first]);
        }
    }

    /** The THIRD that a place between is IN, and the SHARES of its MARKS, kept until the next place is looked for. */
    private static final class Between {
        private final Marks marks;
        private final Thirds thirds;
        private int third = NONE;
        private long area = 0;
        private long shareA = 0;
        private long shareB = 0;
        private long shareC = 0;

        Between(Marks marks, Thirds thirds) {
            this.marks = marks;
            this.thirds = thirds;
        }

        int find(int x, int y, int k, int n) {
            for (int next = 0; next < thirds.many(); next++) {
                share(next, x, y, k, n);
                if (area > 0 && shareA >= 0 && shareB >= 0 && shareC >= 0) {
                    third = next;
                    return next;
                }
            }
            third = NONE;
            return NONE;
        }

        private void share(int next, int x, int y, int k, int n) {
            int a = thirds.corner(next, 0);
            int b = thirds.corner(next, 1);
            int c = thirds.corner(next, 2);
            long ax = marks.tickX(a, k, n);
            long ay = marks.tickY(a, k, n);
            long bx = marks.tickX(b, k, n);
            long by = marks.tickY(b, k, n);
            long cx = marks.tickX(c, k, n);
            long cy = marks.tickY(c, k, n);
            long px = (long) x * n;
            long py = (long) y * n;
            area = Marks.area(ax, ay, bx, by, cx, cy);
            shareA = Marks.area(px, py, bx, by, cx, cy);
            shareB = Marks.area(ax, ay, px, py, cx, cy);
            shareC = Marks.area(ax, ay, bx, by, px, py);
        }

        int originX(int picture) {
            if (third == NONE || area <= 0) {
                return NONE;
            }
            return (int) ((shareA * marks.x(thirds.corner(third, 0), picture)
                    + shareB * marks.x(thirds.corner(third, 1), picture)
                    + shareC * marks.x(thirds.corner(third, 2), picture)) / area);
        }

        int originY(int picture) {
            if (third == NONE || area <= 0) {
                return NONE;
            }
            return (int) ((shareA * marks.y(thirds.corner(third, 0), picture)
                    + shareB * marks.y(thirds.corner(third, 1), picture)
                    + shareC * marks.y(thirds.corner(third, 2), picture)) / area);
        }
    }

    /** PICTURES: their own copies of the numbers, so that a SHEET may change or go afterwards. */
    private static final class Pictures {
        private static final int MOST_WIDE = 12, MOST_CELLS = MOST_WIDE * MOST_WIDE, PARTS = FARTHEST + 1;

        private final int[] wide = new int[2];
        private final int[] high = new int[2];
        private final int[] numbers = new int[2 * MOST_CELLS];

        static boolean isSize(int w, int h) {
            return isWithin(w, 1, MOST_WIDE) && isWithin(h, 1, MOST_WIDE);
        }

        boolean isTold(int picture) {
            return wide[picture] > 0;
        }

        void take(int picture, Sheets sheets, int sheet, int i, int w, int h) {
            wide[picture] = w;
            high[picture] = h;
            for (int cell = 0; cell < w * h; cell++) {
                numbers[picture * MOST_CELLS + cell] = sheets.item(sheet, i + cell);
            }
        }

        int numberAt(int picture, int x, int y) {
            int column = x * wide[picture] / PARTS;
            int row = y * high[picture] / PARTS;
            return numbers[picture * MOST_CELLS + row * wide[picture] + column];
        }
    }

    /** The PAIRING of two ROWS OF POINTS, kept until the next two are joined. */
    private static final class Pairing {
        private static final int MOST = 30, MOST_MET = 2 * MOST - 1;

        private final Sheets sheets;
        private int rowA = 0;
        private int rowB = 0;
        private int pointsA = 0;
        private int pointsB = 0;
        /** The LEAST COST of coming from the first two POINTS to these two. */
        private final int[] costs = new int[MOST * MOST];
        /** The pairs met, from the last one back. */
        private final int[] metA = new int[MOST_MET];
        private final int[] metB = new int[MOST_MET];
        private int many = 0;

        Pairing(Sheets sheets) {
            this.sheets = sheets;
        }

        static boolean isRow(int points) {
            return isWithin(points, 1, MOST);
        }

        void join(int a, int na, int b, int nb) {
            rowA = a;
            rowB = b;
            pointsA = na;
            pointsB = nb;
            for (int i = 0; i < na; i++) {
                for (int j = 0; j < nb; j++) {
                    costs[i * MOST + j] = apart(i, j) + costAhead(i, j);
                }
            }
            walkBack();
        }

        int tell(int what) {
            switch (what) {
                case 0: return costs[(pointsA - 1) * MOST + pointsB - 1];
                case 1: return many;
                case 2: return oftenMet(metB, pointsB);
                default: return oftenMet(metA, pointsA);
            }
        }

        int met(int i) {
            if (i < 0 || i >= many) {
                return NONE;
            }
            int back = many - 1 - i;
            return metA[back] * 100 + metB[back];
        }

        private int apart(int i, int j) {
            return Math.abs(sheets.item(rowA, 2 * i) - sheets.item(rowB, 2 * j))
                    + Math.abs(sheets.item(rowA, 2 * i + 1) - sheets.item(rowB, 2 * j + 1));
        }

        /** The LEAST COST of the pairs that one step leads from to this one. */
        private int costAhead(int i, int j) {
            if (i == 0 && j == 0) {
                return 0;
            }
            if (i == 0) {
                return costs[j - 1];
            }
            if (j == 0) {
                return costs[(i - 1) * MOST];
            }
            int one = Math.min(costs[(i - 1) * MOST + j], costs[i * MOST + j - 1]);
            return Math.min(one, costs[(i - 1) * MOST + j - 1]);
        }

        private void walkBack() {
            int i = pointsA - 1;
            int j = pointsB - 1;
            meet(0, i, j);
            many = 1;
            while (many < MOST_MET && (i > 0 || j > 0)) {
                int ahead = costAhead(i, j);
                boolean both = i > 0 && j > 0 && costs[(i - 1) * MOST + j - 1] == ahead;
                boolean onlyA = !both && i > 0 && costs[(i - 1) * MOST + j] == ahead;
                if (both || onlyA) {
                    i--;
                }
                if (!onlyA) {
                    j--;
                }
                meet(many, i, j);
                many++;
            }
        }

        private void meet(int back, int i, int j) {
            metA[back] = i;
            metB[back] = j;
        }

        /** How many POINTS of a row are met twice or more. */
        private int oftenMet(int[] met, int points) {
            int often = 0;
            for (int point = 0; point < points; point++) {
                if (timesMet(met, point) >= 2) {
                    often++;
                }
            }
            return often;
        }

        private int timesMet(int[] met, int point) {
            int times = 0;
            for (int back = 0; back < many; back++) {
                if (met[back] == point) {
                    times++;
                }
            }
            return times;
        }
    }

    /** ASKS by BODIES, and THE TRACE that they leave. */
    private static final class Asks {
        private static final int MOST_TRACED = 16;

        private final Thirds thirds;
        private final int[] numbers = new int[MOST_TRACED];
        private int many = 0;

        Asks(Thirds thirds) {
            this.thirds = thirds;
        }

        void clear() {
            many = 0;
        }

        int traced(int i) {
            return i >= 0 && i < many ? numbers[i] : NONE;
        }

        int sizeOf(int third) {
            switch (thirds.kindOf(third)) {
                case STILL: return body12(third);
                case SOUND: return body11(third);
                case FLAT: return body13();
                default: return body10(third);
            }
        }

        int markOf(int third) {
            switch (thirds.kindOf(third)) {
                case STILL:
                case SOUND: return body21(third);
                case TURNED: return body22(third);
                default: return body20(third);
            }
        }

        private void begin(int body) {
            if (many < MOST_TRACED) {
                numbers[many] = body;
                many++;
            }
        }

        private int body10(int third) {
            begin(10);
            return thirds.areaIn(third, 0) / 2;
        }

        private int body11(int third) {
            begin(11);
            return body10(third) + thirds.areaIn(third, 1) / 2;
        }

        /** MARK, asked anew of a STILL one, is always body 21: called by its name, nothing recurs. */
        private int body12(int third) {
            begin(12);
            return body11(third) + body21(third);
        }

        private int body13() {
            begin(13);
            return 0;
        }

        private int body20(int third) {
            begin(20);
            return thirds.corner(third, 0) + thirds.corner(third, 1) + thirds.corner(third, 2);
        }

        private int body21(int third) {
            begin(21);
            return body20(third) + 100;
        }

        /** SIZE, asked anew of a TURNED one, is always body 10: called by its name, nothing recurs. */
        private int body22(int third) {
            begin(22);
            return body20(third) + body10(third);
        }
    }
}
