/** Each promise of the document by itself: ordinary inputs, the edges that it names, wrong inputs. */
public final class PromiseTest {
    private static final int NONE = -1000000, BAD = -1000001, STATE = -1000002, FULL = -1000003;
    private static final int NULL = -1000011, PLACE = -1000012, KIND = -1000013, SIZE = -1000014, STORE = -1000015;
    private static final int MAX = Integer.MAX_VALUE, MIN = Integer.MIN_VALUE;
    /** A SHEET that the tests keep full of noughts, to read others by the cost of pairing with it. */
    private static final int NOUGHTS = 7;

    private static int promise = 0;
    private static int wrong = 0;

    public static void main(String[] args) {
        constants();
        newObject();
        sheet();
        set();
        copyItems();
        copyRefused();
        drop();
        mark();
        move();
        at();
        third();
        told();
        folds();
        first();
        sides();
        key();
        eased();
        unkey();
        in();
        from();
        picture();
        pictureKept();
        seen();
        pairs();
        pairsRefused();
        pairsTies();
        pairsLong();
        pair();
        kind();
        as();
        ask();
        trace();
        count();
        status();
        System.out.println(wrong == 0 ? "all promises hold" : wrong + " answers are not as due");
        if (wrong != 0) {
            System.exit(1);
        }
    }

    private static void due(int got, int want) {
        if (got != want) {
            wrong++;
            int line = new Throwable().getStackTrace()[1].getLineNumber();
            System.out.println("promise " + promise + ", line " + line + ": answered " + got + ", due is " + want);
        }
    }

    private static void fill(ShapeBetween s, int sheet, int lane, int... items) {
        s.sheet(sheet, lane, items.length);
        for (int i = 0; i < items.length; i++) {
            s.set(sheet, i, items[i]);
        }
    }

    /** All ITEMS of a SHEET (as many as told, an even number of 0 to 1000 each), added up. */
    private static int sum(ShapeBetween s, int sheet, int items) {
        s.sheet(NOUGHTS, 2, 2);
        return s.pairs(sheet, items / 2, NOUGHTS, 1, 0);
    }

    /** A THIRD over the whole of both PICTURES' lower half, so that what is FROM a place is the place itself. */
    private static ShapeBetween wholeStill() {
        ShapeBetween s = new ShapeBetween();
        s.mark(0, 0, 0, 0);
        s.mark(1000, 0, 1000, 0);
        s.mark(1000, 1000, 1000, 1000);
        s.mark(0, 1000, 0, 1000);
        s.third(0, 1, 2);
        s.third(0, 2, 3);
        return s;
    }

    /** THIRDS 0 STILL, 1 SOUND, 2 FLAT (in picture 0), 3 FLAT (in 1), 4 TURNED (in 0), 5 (in 1), 6 (in both). */
    private static ShapeBetween allKinds() {
        ShapeBetween s = new ShapeBetween();
        s.mark(0, 0, 0, 0);
        s.mark(11, 0, 11, 0);
        s.mark(0, 11, 0, 11);
        s.mark(7, 7, 9, 9);
        s.mark(5, 0, 0, 5);
        s.mark(0, 5, 5, 0);
        s.mark(0, 8, 8, 8);
        s.mark(8, 8, 0, 8);
        s.third(0, 1, 2);
        s.third(0, 1, 3);
        s.third(0, 1, 4);
        s.third(0, 1, 5);
        s.third(0, 6, 7);
        s.third(0, 7, 5);
        s.third(2, 3, 0);
        return s;
    }

    private static void constants() {
        due(ShapeBetween.NONE, NONE);
        due(ShapeBetween.BAD, BAD);
        due(ShapeBetween.STATE, STATE);
        due(ShapeBetween.FULL, FULL);
    }

    private static void newObject() {
        promise = 1;
        ShapeBetween s = new ShapeBetween();
        for (int what = 0; what <= 7; what++) {
            due(s.count(what), 0);
        }
        due(s.status(), 0);
        due(s.trace(0), NONE);
        due(s.eased(333), 333);
        due(s.in(0, 0, 0, 1), NONE);
        due(s.seen(0, 0, 0, 1), STATE);
        due(s.drop(0), NULL);
        due(s.drop(7), NULL);
        ShapeBetween other = new ShapeBetween();
        other.sheet(3, 0, 5);
        other.mark(1, 2, 3, 4);
        other.key(5, 6);
        due(new ShapeBetween().count(0), 0);
        due(s.count(1), 0);
        due(s.eased(5), 5);
    }

    private static void sheet() {
        promise = 2;
        ShapeBetween s = new ShapeBetween();
        due(s.sheet(0, 0, 0), 0);
        due(s.sheet(7, 2, 144), 144);
        due(s.sheet(3, 1, 1), 1);
        due(s.count(0), 3);
        due(s.sheet(-1, 0, 1), BAD);
        due(s.sheet(8, 0, 1), BAD);
        due(s.sheet(0, -1, 1), BAD);
        due(s.sheet(0, 3, 1), BAD);
        due(s.sheet(0, 0, 145), BAD);
        due(s.sheet(0, 0, MAX), BAD);
        due(s.sheet(0, 0, -1), SIZE);
        due(s.sheet(0, 0, MIN), SIZE);
        due(s.sheet(8, 0, -1), BAD);
        due(s.sheet(0, 3, -1), BAD);
        due(s.set(0, 0, 1), PLACE);
        fill(s, 1, 2, 7, 9, 11, 13);
        due(sum(s, 1, 4), 40);
        due(s.sheet(1, 2, -1), SIZE);
        due(s.sheet(1, 2, 145), BAD);
        due(sum(s, 1, 4), 40);
        due(s.sheet(1, 2, 2), 2);
        due(s.set(1, 2, 1), PLACE);
        due(sum(s, 1, 2), 0);
        due(s.sheet(1, 2, 4), 4);
        due(sum(s, 1, 4), 0);
        due(s.sheet(1, 0, 4), 4);
        due(s.set(1, 0, 300), 44);
        due(s.count(0), 4);
    }

    private static void set() {
        promise = 3;
        ShapeBetween s = new ShapeBetween();
        due(s.set(0, 0, 1), NULL);
        due(s.set(-1, 0, 1), BAD);
        due(s.set(8, 0, 1), BAD);
        s.sheet(0, 0, 2);
        due(s.set(0, 0, 127), 127);
        due(s.set(0, 0, 128), -128);
        due(s.set(0, 1, 255), -1);
        due(s.set(0, 1, 256), 0);
        due(s.set(0, 1, -129), 127);
        s.sheet(1, 1, 2);
        due(s.set(1, 0, 32767), 32767);
        due(s.set(1, 0, 32768), -32768);
        due(s.set(1, 1, 65535), -1);
        due(s.set(1, 1, 65536), 0);
        due(s.set(1, 1, 300), 300);
        s.sheet(2, 2, 2);
        due(s.set(2, 0, MAX), MAX);
        due(s.set(2, 1, MIN), MIN);
        due(s.set(2, -1, 1), PLACE);
        due(s.set(2, 2, 1), PLACE);
        due(s.set(2, MAX, 1), PLACE);
        due(s.set(2, MIN, 1), PLACE);
        fill(s, 3, 2, 5, 6);
        due(s.set(3, 2, 100), PLACE);
        due(sum(s, 3, 2), 11);
        due(s.set(3, 1, 100), 100);
        due(sum(s, 3, 2), 105);
        s.sheet(4, 0, 0);
        due(s.set(4, 0, 1), PLACE);
        s.sheet(5, 2, 144);
        due(s.set(5, 143, 9), 9);
        due(s.set(5, 144, 9), PLACE);
    }

    private static void copyItems() {
        promise = 4;
        ShapeBetween s = new ShapeBetween();
        fill(s, 0, 2, 1, 10, 100, 1000);
        fill(s, 1, 2, 0, 0, 0, 0);
        due(s.copy(0, 1, 1, 2, 2), 2);
        due(sum(s, 1, 2), 0);
        due(sum(s, 1, 4), 110);
        due(sum(s, 0, 4), 1111);
        due(s.copy(0, 0, 0, 1, 3), 3);
        due(sum(s, 0, 2), 2);
        due(sum(s, 0, 4), 112);
        fill(s, 0, 2, 1, 10, 100, 1000);
        due(s.copy(0, 1, 0, 0, 3), 3);
        due(sum(s, 0, 2), 110);
        due(sum(s, 0, 4), 2110);
        due(s.copy(0, 0, 0, 0, 4), 4);
        due(sum(s, 0, 4), 2110);
        due(s.copy(0, 4, 1, 0, 0), 0);
        due(s.copy(0, 0, 1, 4, 0), 0);
        due(sum(s, 1, 4), 110);
        fill(s, 2, 0, 1, 2);
        fill(s, 3, 0, 3, 4);
        due(s.copy(2, 0, 3, 0, 2), 2);
        due(sum(s, 3, 2), 3);
        fill(s, 4, 1, 500, 600);
        fill(s, 5, 1, 0, 0);
        due(s.copy(4, 1, 5, 0, 1), 1);
        due(sum(s, 5, 2), 600);
    }

    private static void copyRefused() {
        promise = 4;
        ShapeBetween s = new ShapeBetween();
        fill(s, 0, 2, 1, 10);
        fill(s, 1, 2, 2, 20, 30, 40);
        fill(s, 2, 0, 3, 30);
        due(s.copy(-1, 0, 1, 0, 1), BAD);
        due(s.copy(0, 0, -1, 0, 1), BAD);
        due(s.copy(8, 0, 1, 0, 1), BAD);
        due(s.copy(3, 0, 8, 0, 1), BAD);
        due(s.copy(3, 0, 1, 0, 1), NULL);
        due(s.copy(0, 0, 3, 0, 1), NULL);
        due(s.copy(3, -1, 2, 0, 1), NULL);
        due(s.copy(0, 0, 2, 0, 1), STORE);
        due(s.copy(2, 0, 0, 0, 0), STORE);
        due(s.copy(0, -1, 2, 0, 9), STORE);
        due(s.copy(0, -1, 1, 0, 1), PLACE);
        due(s.copy(0, 0, 1, -1, 1), PLACE);
        due(s.copy(0, 0, 1, 0, -1), PLACE);
        due(s.copy(0, 0, 1, 0, MIN), PLACE);
        due(s.copy(0, 0, 1, 0, 3), PLACE);
        due(s.copy(0, 1, 1, 0, 2), PLACE);
        due(s.copy(1, 0, 0, 0, 3), PLACE);
        due(s.copy(1, 0, 0, 1, 2), PLACE);
        due(s.copy(0, 3, 1, 0, 0), PLACE);
        due(s.copy(0, 0, 1, 5, 0), PLACE);
        due(s.copy(0, MAX, 1, 0, 1), PLACE);
        due(s.copy(0, 1, 1, 1, MAX), PLACE);
        due(s.copy(0, MAX, 1, MAX, MAX), PLACE);
        due(s.copy(0, 0, 1, MAX, 2), PLACE);
        due(sum(s, 0, 2), 11);
        due(sum(s, 1, 4), 92);
    }

    private static void drop() {
        promise = 5;
        ShapeBetween s = new ShapeBetween();
        s.sheet(0, 0, 5);
        s.sheet(7, 1, 0);
        due(s.count(0), 2);
        due(s.drop(0), 5);
        due(s.count(0), 1);
        due(s.drop(0), NULL);
        due(s.set(0, 0, 1), NULL);
        due(s.drop(7), 0);
        due(s.drop(7), NULL);
        due(s.drop(-1), BAD);
        due(s.drop(8), BAD);
        due(s.sheet(0, 1, 3), 3);
        due(s.drop(0), 3);
        fill(s, 0, 2, 6, 7);
        s.drop(0);
        s.sheet(0, 2, 2);
        due(sum(s, 0, 2), 0);
    }

    private static void mark() {
        promise = 6;
        ShapeBetween s = new ShapeBetween();
        due(s.mark(-1, 0, 0, 0), BAD);
        due(s.mark(0, -1, 0, 0), BAD);
        due(s.mark(0, 0, -1, 0), BAD);
        due(s.mark(0, 0, 0, -1), BAD);
        due(s.mark(1001, 0, 0, 0), BAD);
        due(s.mark(0, 1001, 0, 0), BAD);
        due(s.mark(0, 0, 1001, 0), BAD);
        due(s.mark(0, 0, 0, 1001), BAD);
        due(s.count(1), 0);
        for (int m = 0; m < 16; m++) {
            due(s.mark(m, 1000 - m, 1000, 0), m);
        }
        due(s.mark(0, 0, 0, 0), FULL);
        due(s.mark(0, 0, 0, 1001), BAD);
        due(s.count(1), 16);
        due(s.at(15, 0, 1, 0), 15);
        due(s.at(15, 0, 1, 1), 985);
        due(s.at(15, 1, 1, 0), 1000);
        due(s.at(15, 1, 1, 1), 0);
    }

    private static void move() {
        promise = 7;
        ShapeBetween s = new ShapeBetween();
        s.mark(1, 2, 3, 4);
        s.mark(5, 6, 7, 8);
        due(s.move(0, 0, 1000, 0), 1);
        due(s.at(0, 0, 1, 0), 1000);
        due(s.at(0, 0, 1, 1), 0);
        due(s.at(0, 1, 1, 0), 3);
        due(s.at(0, 1, 1, 1), 4);
        due(s.move(1, 1, 0, 1000), 1);
        due(s.at(1, 1, 1, 0), 0);
        due(s.at(1, 1, 1, 1), 1000);
        due(s.at(1, 0, 1, 0), 5);
        due(s.move(2, 0, 0, 0), BAD);
        due(s.move(-1, 0, 0, 0), BAD);
        due(s.move(0, 2, 0, 0), BAD);
        due(s.move(0, -1, 0, 0), BAD);
        due(s.move(0, 0, 1001, 0), BAD);
        due(s.move(0, 0, -1, 0), BAD);
        due(s.move(0, 0, 0, 1001), BAD);
        due(s.move(0, 0, 0, -1), BAD);
        due(s.at(0, 0, 1, 0), 1000);
    }

    private static void at() {
        promise = 8;
        ShapeBetween s = new ShapeBetween();
        s.mark(10, 1000, 40, 0);
        s.mark(1000, 1000, 1000, 1000);
        due(s.at(0, 0, 3, 0), 30);
        due(s.at(0, 1, 3, 0), 60);
        due(s.at(0, 2, 3, 0), 90);
        due(s.at(0, 3, 3, 0), 120);
        due(s.at(0, 1, 3, 1), 2000);
        due(s.at(0, 3, 3, 1), 0);
        due(s.at(1, 50, 100, 0), 100000);
        due(s.at(1, 100, 100, 1), 100000);
        due(s.at(2, 0, 1, 0), BAD);
        due(s.at(-1, 0, 1, 0), BAD);
        due(s.at(0, -1, 1, 0), BAD);
        due(s.at(0, 2, 1, 0), BAD);
        due(s.at(0, 0, 0, 0), BAD);
        due(s.at(0, 0, -1, 0), BAD);
        due(s.at(0, 0, 101, 0), BAD);
        due(s.at(0, 0, 1, 2), BAD);
        due(s.at(0, 0, 1, -1), BAD);
    }

    private static void third() {
        promise = 9;
        ShapeBetween s = new ShapeBetween();
        for (int m = 0; m < 5; m++) {
            s.mark(m, m * m, m, m * m);
        }
        due(s.third(0, 1, 2), 0);
        due(s.third(0, 1, 5), BAD);
        due(s.third(5, 1, 0), BAD);
        due(s.third(0, 5, 1), BAD);
        due(s.third(-1, 1, 2), BAD);
        due(s.third(1, 1, 2), BAD);
        due(s.third(1, 2, 2), BAD);
        due(s.third(2, 1, 2), BAD);
        due(s.third(0, 1, 2), STATE);
        due(s.third(0, 2, 1), STATE);
        due(s.third(1, 0, 2), STATE);
        due(s.third(1, 2, 0), STATE);
        due(s.third(2, 0, 1), STATE);
        due(s.third(2, 1, 0), STATE);
        due(s.third(2, 1, 3), 1);
        due(s.count(2), 2);
        for (int m = 5; m < 16; m++) {
            s.mark(m, m * m, m, m * m);
        }
        for (int t = 2; t < 24; t++) {
            due(s.third(t < 14 ? 0 : 1, t < 14 ? t + 1 : t - 10, t < 14 ? t + 2 : 15), t);
        }
        due(s.third(2, 4, 9), FULL);
        due(s.third(2, 1, 0), STATE);
        due(s.third(2, 2, 0), BAD);
        due(s.third(2, 16, 0), BAD);
        due(s.count(2), 24);
        allThirdsFull(s);
    }

    /** With 24 THIRDS no row has room left: the calls that go through them all stop at the last. */
    private static void allThirdsFull(ShapeBetween s) {
        due(s.in(1000, 1000, 0, 1), NONE);
        due(s.from(1000, 1000, 0, 1, 0), NONE);
        due(s.first(100, 1), 1);
        due(s.count(4), 23);
        due(s.count(6), 1);
        int sides = 0;
        for (int many = 1; many <= 24; many++) {
            sides += many * s.sides(many);
        }
        due(sides, 3 * 24);
    }

    private static void told() {
        promise = 10;
        ShapeBetween s = new ShapeBetween();
        s.mark(0, 0, 0, 0);
        s.mark(1000, 0, 0, 1000);
        s.mark(0, 1000, 1000, 0);
        s.mark(3, 4, 5, 6);
        s.third(1, 2, 0);
        s.third(3, 0, 1);
        due(s.told(0, 0), 1);
        due(s.told(0, 1), 2);
        due(s.told(0, 2), 0);
        due(s.told(0, 3), 1000000);
        due(s.told(0, 4), -1000000);
        due(s.told(1, 0), 3);
        due(s.told(1, 1), 0);
        due(s.told(1, 2), 1);
        due(s.told(1, 3), 4000);
        due(s.told(1, 4), -5000);
        due(s.told(1, 5), BAD);
        due(s.told(1, -1), BAD);
        due(s.told(2, 0), BAD);
        due(s.told(-1, 0), BAD);
        s.move(3, 0, 10, 8);
        due(s.told(1, 3), 8000);
    }

    private static void folds() {
        promise = 11;
        ShapeBetween s = wholeStill();
        due(s.folds(0, 1), NONE);
        due(s.folds(0, 100), NONE);
        due(s.folds(0, 0), BAD);
        due(s.folds(0, 101), BAD);
        due(s.folds(0, -1), BAD);
        due(s.folds(2, 1), BAD);
        due(s.folds(-1, 1), BAD);
        s.move(1, 1, 0, 1000);
        due(s.folds(0, 1), 1);
        due(s.folds(0, 2), 1);
        due(s.folds(0, 3), 2);
        due(s.folds(0, 100), 50);
        due(s.folds(0, 99), 50);
        s.move(1, 0, 0, 1000);
        due(s.folds(0, 7), 0);
        s.move(1, 0, 500, 500);
        s.move(1, 1, 1000, 0);
        due(s.folds(0, 7), 0);
        foldsOnlyBetween();
    }

    /** A half turn: upright at both ends, a mere line halfway, where only even numbers of TICKS look. */
    private static void foldsOnlyBetween() {
        ShapeBetween s = new ShapeBetween();
        s.mark(0, 0, 10, 10);
        s.mark(10, 0, 0, 10);
        s.mark(0, 10, 10, 0);
        s.third(0, 1, 2);
        due(s.folds(0, 1), NONE);
        due(s.folds(0, 3), NONE);
        due(s.folds(0, 4), 2);
        due(s.folds(0, 100), 50);
        s.move(1, 1, 9, 10);
        s.move(2, 1, 10, 9);
        due(s.kind(0), 1);
        due(s.folds(0, 1), NONE);
    }

    private static void first() {
        promise = 12;
        ShapeBetween s = wholeStill();
        due(s.first(10, 0), NONE);
        due(s.first(10, 1), NONE);
        due(s.first(0, 0), BAD);
        due(s.first(101, 0), BAD);
        due(s.first(1, 2), BAD);
        due(s.first(1, -1), BAD);
        due(s.first(101, 2), BAD);
        s.move(3, 1, 1000, 0);
        due(s.first(10, 0), 5);
        due(s.first(10, 1), 1);
        due(s.first(100, 0), 50);
        s.move(1, 1, 0, 1000);
        due(s.first(10, 0), 5);
        due(s.first(10, 1), 0);
        s.move(1, 1, 400, 600);
        due(s.folds(0, 10), 9);
        due(s.first(10, 0), 5);
        due(s.first(10, 1), 1);
        s.move(2, 0, 0, 0);
        due(s.first(1, 0), 0);
        due(s.first(1, 1), 0);
        due(new ShapeBetween().first(100, 0), NONE);
        ShapeBetween last = wholeStill();
        last.move(3, 1, 1000, 1000);
        due(last.first(7, 0), 7);
        due(last.first(7, 1), 1);
        last.move(3, 0, 1000, 1000);
        last.move(1, 1, 1000, 1000);
        due(last.first(7, 0), 0);
        due(last.first(7, 1), 1);
        last.move(3, 1, 0, 1000);
        due(last.folds(0, 1), 1);
        due(last.first(1, 0), 0);
        due(last.first(1, 1), 1);
        ShapeBetween growing = wholeStill();
        growing.move(1, 0, 600, 400);
        due(growing.first(1, 0), NONE);
        due(growing.first(1, 1), NONE);
    }

    private static void sides() {
        promise = 13;
        ShapeBetween s = new ShapeBetween();
        for (int m = 0; m < 16; m++) {
            s.mark(m, m, m, m);
        }
        due(s.sides(1), 0);
        s.third(0, 1, 2);
        due(s.sides(1), 3);
        s.third(3, 2, 1);
        due(s.sides(1), 4);
        due(s.sides(2), 1);
        s.third(1, 4, 2);
        due(s.sides(1), 6);
        due(s.sides(2), 0);
        due(s.sides(3), 1);
        for (int m = 5; m < 16; m++) {
            s.third(2, m, 1);
        }
        due(s.sides(14), 1);
        due(s.sides(1), 28);
        due(s.sides(24), 0);
        due(s.sides(25), BAD);
        due(s.sides(0), BAD);
        due(s.sides(-1), BAD);
    }

    private static void key() {
        promise = 14;
        ShapeBetween s = new ShapeBetween();
        due(s.key(-1, 0), BAD);
        due(s.key(1001, 0), BAD);
        due(s.key(0, -1), BAD);
        due(s.key(0, 1001), BAD);
        due(s.count(7), 0);
        due(s.key(0, 100), 1);
        due(s.key(0, 200), STATE);
        due(s.key(1, 99), STATE);
        due(s.key(1, 100), 2);
        due(s.key(0, 1000), STATE);
        due(s.key(2, 101), 3);
        due(s.key(3, 101), 4);
        due(s.key(4, 1000), 5);
        due(s.key(1000, 999), STATE);
        due(s.key(999, 1000), 6);
        due(s.key(1000, 1000), FULL);
        due(s.key(999, 1000), STATE);
        due(s.key(1000, 1001), BAD);
        due(s.count(7), 6);
    }

    private static void eased() {
        promise = 15;
        ShapeBetween s = new ShapeBetween();
        due(s.eased(0), 0);
        due(s.eased(1000), 1000);
        due(s.eased(1001), BAD);
        due(s.eased(-1), BAD);
        s.key(300, 40);
        due(s.eased(0), 40);
        due(s.eased(300), 40);
        due(s.eased(1000), 40);
        s.key(307, 50);
        due(s.eased(299), 40);
        due(s.eased(300), 40);
        due(s.eased(301), 41);
        due(s.eased(302), 42);
        due(s.eased(303), 44);
        due(s.eased(306), 48);
        due(s.eased(307), 50);
        due(s.eased(308), 50);
        s.key(407, 50);
        s.key(507, 1000);
        due(s.eased(350), 50);
        due(s.eased(406), 50);
        due(s.eased(408), 59);
        due(s.eased(506), 990);
        due(s.eased(1000), 1000);
        due(s.eased(1001), BAD);
        s.key(600, 1000);
        s.key(700, 1000);
        due(s.count(7), 6);
        due(s.eased(700), 1000);
        due(s.eased(1000), 1000);
        s.unkey();
        s.key(100, 7);
        due(s.eased(200), 7);
        due(s.eased(1000), 7);
    }

    private static void unkey() {
        promise = 16;
        ShapeBetween s = new ShapeBetween();
        due(s.unkey(), 0);
        s.key(500, 500);
        s.key(600, 700);
        due(s.unkey(), 2);
        due(s.count(7), 0);
        due(s.eased(123), 123);
        due(s.key(5, 6), 1);
        due(s.eased(0), 6);
        due(s.unkey(), 1);
    }

    private static void in() {
        promise = 17;
        ShapeBetween s = wholeStill();
        due(s.in(0, 0, 0, 1), 0);
        due(s.in(1000, 1000, 100, 100), 0);
        due(s.in(500, 500, 1, 2), 0);
        due(s.in(500, 501, 1, 2), 1);
        due(s.in(501, 500, 1, 2), 0);
        due(s.in(0, 1000, 1, 2), 1);
        due(s.in(-1, 0, 0, 1), BAD);
        due(s.in(0, -1, 0, 1), BAD);
        due(s.in(1001, 0, 0, 1), BAD);
        due(s.in(0, 1001, 0, 1), BAD);
        due(s.in(0, 0, -1, 1), BAD);
        due(s.in(0, 0, 2, 1), BAD);
        due(s.in(0, 0, 0, 0), BAD);
        due(s.in(0, 0, 0, 101), BAD);
        due(s.in(0, 0, 0, -1), BAD);
        s.move(1, 1, 0, 1000);
        due(s.in(900, 100, 0, 10), 0);
        due(s.in(900, 100, 1, 10), 0);
        due(s.in(901, 99, 1, 10), NONE);
        due(s.in(500, 500, 5, 10), 1);
        due(s.in(100, 900, 10, 10), 1);
        due(s.in(900, 100, 10, 10), NONE);
        s.move(3, 1, 1000, 0);
        due(s.in(500, 500, 10, 10), NONE);
        due(s.in(500, 500, 5, 10), NONE);
        due(s.in(500, 500, 4, 10), 0);
        inTheLeast();
    }

    /** A THIRD with an AREA of 1: its MARKS are the only places IN it, and those next to it have a SHARE of -1. */
    private static void inTheLeast() {
        ShapeBetween s = new ShapeBetween();
        s.mark(5, 5, 5, 5);
        s.mark(6, 5, 6, 5);
        s.mark(5, 6, 5, 6);
        s.third(0, 1, 2);
        due(s.in(5, 5, 0, 1), 0);
        due(s.in(6, 5, 0, 1), 0);
        due(s.in(5, 6, 0, 1), 0);
        due(s.in(6, 6, 0, 1), NONE);
        due(s.in(4, 5, 0, 1), NONE);
        due(s.in(5, 4, 0, 1), NONE);
        due(s.from(6, 5, 1, 1, 0), 6);
        due(s.from(6, 5, 1, 1, 3), 5);
        due(s.kind(0), 2);
        due(s.folds(0, 3), NONE);
        s.move(1, 1, 7, 5);
        due(s.kind(0), 1);
        s.move(1, 0, 7, 5);
        s.move(1, 1, 6, 5);
        due(s.kind(0), 1);
    }

    private static void from() {
        promise = 18;
        ShapeBetween s = new ShapeBetween();
        s.mark(0, 0, 100, 200);
        s.mark(100, 0, 400, 200);
        s.mark(0, 100, 100, 500);
        s.third(0, 1, 2);
        due(s.from(30, 40, 0, 5, 0), 30);
        due(s.from(30, 40, 0, 5, 1), 40);
        due(s.from(30, 40, 0, 5, 2), 190);
        due(s.from(30, 40, 0, 5, 3), 320);
        due(s.from(100, 200, 5, 5, 0), 0);
        due(s.from(100, 200, 5, 5, 3), 200);
        due(s.from(101, 201, 5, 5, 0), 0);
        due(s.from(103, 207, 5, 5, 0), 1);
        due(s.from(103, 207, 5, 5, 1), 2);
        due(s.from(105, 209, 5, 5, 2), 105);
        due(s.from(52, 104, 1, 2, 0), 1);
        due(s.from(52, 104, 1, 2, 1), 2);
        due(s.from(52, 104, 1, 2, 2), 103);
        due(s.from(52, 104, 1, 2, 3), 206);
        due(s.from(999, 999, 1, 2, 0), NONE);
        due(s.from(52, 104, 1, 2, 4), BAD);
        due(s.from(52, 104, 1, 2, -1), BAD);
        due(s.from(-1, 104, 1, 2, 0), BAD);
        due(s.from(52, 1001, 1, 2, 0), BAD);
        due(s.from(52, 104, 3, 2, 0), BAD);
        due(s.from(52, 104, 0, 101, 0), BAD);
        due(s.from(999, 999, 1, 2, 4), BAD);
        ShapeBetween wide = wholeStill();
        due(wide.from(777, 333, 50, 100, 0), 777);
        due(wide.from(777, 333, 50, 100, 1), 333);
        due(wide.from(333, 777, 99, 100, 2), 333);
        due(wide.from(333, 777, 99, 100, 3), 777);
    }

    private static void picture() {
        promise = 19;
        ShapeBetween s = new ShapeBetween();
        fill(s, 0, 2, 0, 255, 256, -1, 7);
        due(s.picture(0, 0, 0, 2, 1), 1);
        due(s.picture(0, 0, 0, 1, 2), 1);
        due(s.picture(1, 0, 4, 1, 1), 1);
        due(s.picture(0, 0, 1, 2, 1), BAD);
        due(s.picture(0, 0, 3, 2, 1), BAD);
        due(s.picture(0, 0, 4, 2, 1), PLACE);
        due(s.picture(0, 0, 4, 1, 2), PLACE);
        due(s.picture(0, 0, 0, 3, 2), PLACE);
        due(s.picture(0, 0, -1, 1, 1), PLACE);
        due(s.picture(0, 0, 5, 1, 1), PLACE);
        due(s.picture(0, 0, MAX, 12, 12), PLACE);
        due(s.picture(0, 1, 0, 1, 1), NULL);
        due(s.picture(0, 1, -1, 1, 1), NULL);
        due(s.picture(-1, 0, 0, 1, 1), BAD);
        due(s.picture(2, 1, 0, 1, 1), BAD);
        due(s.picture(0, -1, 0, 1, 1), BAD);
        due(s.picture(0, 8, 0, 1, 1), BAD);
        due(s.picture(0, 0, 0, 0, 1), BAD);
        due(s.picture(0, 0, 0, 1, 0), BAD);
        due(s.picture(0, 0, 0, 13, 1), BAD);
        due(s.picture(0, 0, 0, 1, 13), BAD);
        due(s.picture(0, 1, 0, 1, 13), BAD);
        s.sheet(2, 0, 144);
        due(s.picture(0, 2, 0, 12, 12), 1);
        due(s.picture(0, 2, 1, 12, 12), PLACE);
        pictureLargest();
    }

    /** The largest PICTURES, of the last SHEET: neither reaches into the other. */
    private static void pictureLargest() {
        ShapeBetween s = wholeStill();
        s.sheet(7, 2, 144);
        s.sheet(6, 2, 144);
        s.set(7, 0, 8);
        s.set(7, 143, 9);
        due(s.picture(1, 7, 0, 12, 12), 1);
        due(s.picture(0, 6, 0, 12, 12), 1);
        s.set(6, 143, 5);
        due(s.picture(0, 6, 0, 12, 12), 1);
        due(s.seen(0, 0, 1, 1), 8);
        due(s.seen(1000, 1000, 1, 1), 9);
        due(s.seen(1000, 1000, 0, 1), 5);
        s.sheet(7, 2, 0);
        due(s.picture(0, 6, 0, 12, 12), 1);
        due(s.seen(0, 0, 1, 1), 8);
    }

    /** What is told stays, whatever becomes of the SHEET, and whatever is refused. */
    private static void pictureKept() {
        promise = 19;
        ShapeBetween s = wholeStill();
        fill(s, 0, 2, 10, 20, 30);
        s.picture(0, 0, 1, 1, 1);
        s.picture(1, 0, 0, 1, 1);
        due(s.seen(5, 5, 0, 1), 20);
        due(s.seen(5, 5, 1, 1), 10);
        s.set(0, 1, 99);
        due(s.seen(5, 5, 0, 1), 20);
        s.set(0, 2, 999);
        due(s.picture(0, 0, 1, 2, 1), BAD);
        due(s.picture(0, 0, 3, 2, 1), PLACE);
        due(s.seen(999, 5, 0, 1), 20);
        s.drop(0);
        due(s.seen(5, 5, 0, 1), 20);
        due(s.picture(0, 0, 0, 1, 1), NULL);
        due(s.seen(5, 5, 0, 1), 20);
        fill(s, 0, 0, 1, 2, 3, 4);
        s.picture(0, 0, 0, 2, 2);
        due(s.seen(999, 5, 0, 1), 2);
        due(s.seen(999, 5, 1, 1), 10);
    }

    private static void seen() {
        promise = 20;
        ShapeBetween s = wholeStill();
        fill(s, 0, 2, 1, 2, 3, 4, 5, 6, 100, 200);
        due(s.seen(0, 0, 0, 1), STATE);
        s.picture(1, 0, 6, 2, 1);
        due(s.seen(0, 0, 0, 1), STATE);
        due(s.seen(0, 1001, 0, 1), BAD);
        s.picture(0, 0, 0, 3, 2);
        due(s.seen(0, 0, 0, 1), 1);
        due(s.seen(333, 500, 0, 1), 1);
        due(s.seen(334, 500, 0, 1), 2);
        due(s.seen(667, 500, 0, 1), 2);
        due(s.seen(668, 500, 0, 1), 3);
        due(s.seen(333, 501, 0, 1), 4);
        due(s.seen(334, 501, 0, 1), 5);
        due(s.seen(1000, 1000, 0, 1), 6);
        due(s.seen(500, 0, 1, 1), 100);
        due(s.seen(501, 1000, 1, 1), 200);
        due(s.seen(500, 0, 1, 3), (2 * 2 + 100) / 3);
        due(s.seen(501, 1000, 2, 3), (5 + 2 * 200) / 3);
        due(s.seen(0, 0, 99, 100), 99);
        due(s.seen(-1, 0, 0, 1), BAD);
        due(s.seen(0, 0, 2, 1), BAD);
        due(s.seen(0, 0, -1, 1), BAD);
        due(s.seen(0, 0, 0, 0), BAD);
        due(s.seen(0, 0, 0, 101), BAD);
        s.move(0, 1, 1000, 0);
        due(s.seen(0, 0, 1, 1), NONE);
        due(s.seen(0, 0, 0, 1), 1);
        ShapeBetween high = wholeStill();
        fill(high, 0, 2, 11, 22, 33);
        high.picture(0, 0, 0, 1, 3);
        high.picture(1, 0, 0, 1, 3);
        due(high.seen(1000, 333, 0, 1), 11);
        due(high.seen(1000, 334, 0, 1), 22);
        due(high.seen(0, 1000, 1, 1), 33);
        fill(high, 0, 2, 1, 2, 3, 4, 5, 6, 7);
        high.picture(0, 0, 0, 7, 1);
        high.picture(1, 0, 0, 1, 7);
        due(high.seen(142, 0, 0, 1), 1);
        due(high.seen(143, 0, 0, 1), 2);
        due(high.seen(0, 857, 1, 1), 6);
        due(high.seen(0, 858, 1, 1), 7);
        ShapeBetween half = wholeStill();
        fill(half, 0, 2, 11);
        half.picture(0, 0, 0, 1, 1);
        due(half.seen(0, 0, 0, 1), STATE);
        due(half.seen(0, 0, 2, 1), BAD);
    }

    private static void pairs() {
        promise = 21;
        ShapeBetween s = new ShapeBetween();
        fill(s, 0, 2, 0, 0, 10, 0, 10, 1, 20, 0);
        fill(s, 1, 1, 0, 1, 10, 0, 20, 1, 21, 2, 5000);
        due(s.pairs(0, 4, 1, 4, 0), 6);
        due(s.pairs(0, 4, 1, 4, 1), 5);
        due(s.pairs(0, 4, 1, 4, 2), 1);
        due(s.pairs(0, 4, 1, 4, 3), 1);
        due(s.pairs(0, 1, 1, 1, 0), 1);
        due(s.pairs(0, 1, 1, 1, 1), 1);
        due(s.pairs(0, 1, 1, 1, 2), 0);
        due(s.pairs(0, 1, 1, 1, 3), 0);
        due(s.pairs(0, 1, 1, 4, 0), 1 + 10 + 21 + 23);
        due(s.pairs(0, 1, 1, 4, 1), 4);
        due(s.pairs(0, 1, 1, 4, 2), 0);
        due(s.pairs(0, 1, 1, 4, 3), 1);
        due(s.pairs(0, 4, 1, 1, 2), 1);
        due(s.pairs(0, 4, 1, 1, 3), 0);
        due(s.pairs(1, 4, 1, 4, 0), 0);
        due(s.pairs(1, 4, 1, 4, 1), 4);
    }

    private static void pairsRefused() {
        promise = 21;
        ShapeBetween s = new ShapeBetween();
        fill(s, 0, 2, 0, 1000, 1, 1001, 7);
        fill(s, 1, 2, 0, 0, -1, 0);
        due(s.pairs(0, 1, 1, 1, 0), 1000);
        due(s.pairs(0, 2, 1, 1, 0), BAD);
        due(s.pairs(0, 1, 1, 2, 0), BAD);
        due(s.pairs(0, 3, 1, 1, 0), PLACE);
        due(s.pairs(0, 2, 1, 3, 0), PLACE);
        due(s.pairs(0, 0, 1, 1, 0), BAD);
        due(s.pairs(0, 1, 1, 0, 0), BAD);
        due(s.pairs(0, 31, 1, 1, 0), BAD);
        due(s.pairs(0, 1, 1, 31, 0), BAD);
        due(s.pairs(0, MIN, 1, 1, 0), BAD);
        due(s.pairs(-1, 1, 1, 1, 0), BAD);
        due(s.pairs(8, 1, 1, 1, 0), BAD);
        due(s.pairs(0, 1, -1, 1, 0), BAD);
        due(s.pairs(0, 1, 8, 1, 0), BAD);
        due(s.pairs(0, 1, 1, 1, -1), BAD);
        due(s.pairs(0, 1, 1, 1, 4), BAD);
        due(s.pairs(2, 1, 1, 1, 4), BAD);
        due(s.pairs(2, 1, 1, 31, 0), BAD);
        due(s.pairs(2, 1, 1, 1, 0), NULL);
        due(s.pairs(1, 1, 2, 1, 0), NULL);
        due(s.pairs(0, 3, 2, 1, 0), NULL);
        due(s.pairs(2, 1, 0, 3, 0), NULL);
        s.sheet(3, 0, 0);
        due(s.pairs(3, 1, 0, 1, 0), PLACE);
        s.sheet(4, 0, 1);
        due(s.pairs(4, 1, 0, 1, 0), PLACE);
    }

    /** Where all ways cost the same, both go as long as they can, from the end back; then a, then b. */
    private static void pairsTies() {
        promise = 22;
        ShapeBetween s = new ShapeBetween();
        s.sheet(0, 2, 60);
        due(s.pairs(0, 4, 0, 2, 1), 4);
        due(s.pair(0, 4, 0, 2, 0), 0);
        due(s.pair(0, 4, 0, 2, 1), 100);
        due(s.pair(0, 4, 0, 2, 2), 200);
        due(s.pair(0, 4, 0, 2, 3), 301);
        due(s.pairs(0, 2, 0, 4, 1), 4);
        due(s.pair(0, 2, 0, 4, 1), 1);
        due(s.pair(0, 2, 0, 4, 2), 2);
        due(s.pair(0, 2, 0, 4, 3), 103);
        due(s.pairs(0, 30, 0, 30, 1), 30);
        due(s.pair(0, 30, 0, 30, 29), 2929);
        // Here both going costs more than either alone, and a alone costs what b alone does.
        fill(s, 1, 2, 0, 0, 5, 5);
        fill(s, 2, 2, 5, 5, 0, 0);
        due(s.pairs(1, 2, 2, 2, 0), 20);
        due(s.pairs(1, 2, 2, 2, 1), 2);
        fill(s, 1, 2, 4, 0, 9, 0, 5, 0);
        fill(s, 2, 2, 5, 0, 8, 0, 4, 0);
        due(s.pairs(1, 3, 2, 3, 0), 3);
        fill(s, 1, 2, 10, 0, 0, 0, 10, 0);
        fill(s, 2, 2, 0, 0, 10, 0, 0, 0);
        due(s.pairs(1, 3, 2, 3, 0), 20);
        due(s.pairs(1, 3, 2, 3, 1), 4);
        due(s.pair(1, 3, 2, 3, 1), 1);
        due(s.pair(1, 3, 2, 3, 2), 102);
        due(s.pair(1, 3, 2, 3, 3), 202);
    }

    private static void pairsLong() {
        promise = 21;
        ShapeBetween s = new ShapeBetween();
        s.sheet(0, 2, 60);
        s.sheet(1, 2, 60);
        for (int i = 0; i < 60; i++) {
            s.set(1, i, 1000);
        }
        due(s.pairs(0, 30, 1, 30, 0), 60000);
        due(s.pairs(0, 30, 1, 30, 1), 30);
        due(s.pairs(0, 30, 1, 1, 0), 60000);
        due(s.pairs(0, 30, 1, 1, 2), 1);
        // First a goes alone, then both once, then b alone: no PAIRING of rows so long meets more pairs.
        s.sheet(2, 2, 60);
        s.sheet(3, 2, 60);
        s.set(2, 58, 1000);
        s.set(2, 59, 1000);
        for (int i = 2; i < 60; i++) {
            s.set(3, i, 1000);
        }
        due(s.pairs(2, 30, 3, 30, 0), 0);
        due(s.pairs(2, 30, 3, 30, 1), 58);
        due(s.pairs(2, 30, 3, 30, 2), 1);
        due(s.pairs(2, 30, 3, 30, 3), 1);
        due(s.pair(2, 30, 3, 30, 28), 2800);
        due(s.pair(2, 30, 3, 30, 29), 2901);
        due(s.pair(2, 30, 3, 30, 57), 2929);
        due(s.pair(2, 30, 3, 30, 58), NONE);
    }

    private static void pair() {
        promise = 22;
        ShapeBetween s = new ShapeBetween();
        fill(s, 0, 2, 0, 0, 10, 0, 10, 1, 20, 0);
        fill(s, 1, 1, 0, 1, 10, 0, 20, 1, 21, 2, 5000);
        due(s.pair(0, 4, 1, 4, 0), 0);
        due(s.pair(0, 4, 1, 4, 1), 101);
        due(s.pair(0, 4, 1, 4, 2), 201);
        due(s.pair(0, 4, 1, 4, 3), 302);
        due(s.pair(0, 4, 1, 4, 4), 303);
        due(s.pair(0, 4, 1, 4, 5), NONE);
        due(s.pair(0, 4, 1, 4, -1), NONE);
        due(s.pair(0, 4, 1, 4, MAX), NONE);
        due(s.pair(0, 4, 1, 4, MIN), NONE);
        due(s.pair(0, 4, 2, 4, 0), NULL);
        due(s.pair(2, 4, 0, 4, 0), NULL);
        due(s.pair(2, 9, 0, 9, -1), NULL);
        due(s.pair(0, 5, 1, 4, 0), PLACE);
        due(s.pair(0, 4, 1, 5, 99), PLACE);
        due(s.pair(8, 4, 1, 4, 0), BAD);
        due(s.pair(0, 4, -1, 4, 0), BAD);
        due(s.pair(0, 0, 1, 4, 0), BAD);
        due(s.pair(0, 4, 1, 31, 0), BAD);
        due(s.pair(2, 4, 1, 31, 0), BAD);
        s.set(0, 7, 1001);
        due(s.pair(0, 4, 1, 4, 99), BAD);
        due(s.pair(0, 3, 1, 4, 99), NONE);
    }

    private static void kind() {
        promise = 23;
        ShapeBetween s = allKinds();
        due(s.kind(0), 2);
        due(s.kind(1), 1);
        due(s.kind(2), 3);
        due(s.kind(3), 3);
        due(s.kind(4), 4);
        due(s.kind(5), 4);
        due(s.kind(6), 4);
        due(s.kind(7), BAD);
        due(s.kind(-1), BAD);
        s.move(7, 0, 0, 9);
        due(s.kind(4), 3);
        s.move(7, 0, 0, 8);
        s.move(6, 0, 8, 8);
        due(s.kind(4), 2);
        s.move(0, 1, 0, 1);
        due(s.kind(0), 1);
        s.move(0, 1, 0, 0);
        due(s.kind(0), 2);
        s.move(1, 0, 11, 1);
        due(s.kind(0), 1);
        s.move(1, 0, 11, 0);
        s.move(2, 1, 1, 11);
        due(s.kind(0), 1);
        s.move(2, 0, 5, 0);
        due(s.kind(0), 3);
        s.move(2, 1, 5, 0);
        due(s.kind(0), 3);
        ShapeBetween flat = new ShapeBetween();
        flat.mark(0, 0, 0, 0);
        flat.mark(5, 5, 5, 0);
        flat.mark(9, 9, 0, 5);
        flat.third(0, 2, 1);
        due(flat.told(0, 3), 0);
        due(flat.told(0, 4), -25);
        due(flat.kind(0), 3);
    }

    private static void as() {
        promise = 24;
        ShapeBetween s = allKinds();
        int[] own = {2, 1, 3, 3, 4, 4, 4};
        int[] area = {121, 99, 55, 0, 64, -40, -99};
        for (int third = 0; third < own.length; third++) {
            due(s.told(third, 4), area[third]);
            for (int kind = 0; kind <= 4; kind++) {
                boolean is = kind == 0 || kind == own[third] || kind == 1 && own[third] == 2;
                due(s.as(third, kind), is ? area[third] : KIND);
                due(s.status(), is ? 0 : 3);
            }
        }
        due(s.as(0, 5), BAD);
        due(s.as(0, -1), BAD);
        due(s.as(7, 0), BAD);
        due(s.as(-1, 0), BAD);
        due(s.kind(0), 2);
    }

    private static void ask() {
        promise = 25;
        ShapeBetween s = allKinds();
        due(s.ask(0, 0), 60 + 60 + 103);
        dueTrace(s, 12, 11, 10, 21, 20);
        due(s.ask(0, 1), 103);
        dueTrace(s, 21, 20);
        due(s.ask(1, 0), 38 + 49);
        dueTrace(s, 11, 10);
        due(s.ask(1, 1), 104);
        dueTrace(s, 21, 20);
        due(s.ask(2, 0), 0);
        dueTrace(s, 13);
        due(s.ask(3, 0), 0);
        dueTrace(s, 13);
        due(s.ask(3, 1), 6);
        dueTrace(s, 20);
        due(s.ask(4, 0), -32);
        dueTrace(s, 10);
        due(s.ask(4, 1), 13 - 32);
        dueTrace(s, 22, 20, 10);
        due(s.ask(5, 0), 20);
        dueTrace(s, 10);
        due(s.ask(5, 1), 12 + 20);
        dueTrace(s, 22, 20, 10);
        due(s.ask(6, 0), -38);
        dueTrace(s, 10);
        due(s.ask(6, 1), 5 - 38);
        dueTrace(s, 22, 20, 10);
        due(s.ask(7, 0), BAD);
        due(s.ask(-1, 0), BAD);
        due(s.ask(0, 2), BAD);
        due(s.ask(0, -1), BAD);
        dueTrace(s, 22, 20, 10);
    }

    private static void dueTrace(ShapeBetween s, int... bodies) {
        for (int i = 0; i < bodies.length; i++) {
            due(s.trace(i), bodies[i]);
        }
        due(s.trace(bodies.length), NONE);
    }

    private static void trace() {
        promise = 26;
        ShapeBetween s = allKinds();
        due(s.trace(0), NONE);
        due(s.trace(-1), NONE);
        due(s.trace(MIN), NONE);
        due(s.trace(MAX), NONE);
        s.ask(0, 0);
        due(s.trace(-1), NONE);
        due(s.trace(0), 12);
        due(s.trace(4), 20);
        due(s.trace(5), NONE);
        due(s.trace(15), NONE);
        due(s.trace(16), NONE);
        s.as(0, 4);
        s.ask(0, 9);
        due(s.trace(0), 12);
        s.ask(2, 0);
        due(s.trace(0), 13);
        due(s.trace(1), NONE);
    }

    private static void count() {
        promise = 27;
        ShapeBetween s = allKinds();
        s.sheet(0, 0, 0);
        s.sheet(0, 1, 1);
        s.sheet(5, 2, 9);
        s.key(1, 1);
        due(s.count(0), 2);
        due(s.count(1), 8);
        due(s.count(2), 7);
        due(s.count(3), 2);
        due(s.count(4), 1);
        due(s.count(5), 2);
        due(s.count(6), 3);
        due(s.count(7), 1);
        due(s.count(8), BAD);
        due(s.count(-1), BAD);
        due(s.count(MIN), BAD);
    }

    private static void status() {
        promise = 28;
        ShapeBetween s = allKinds();
        due(s.status(), 0);
        s.sheet(0, 0, -1);
        due(s.status(), 4);
        s.sheet(8, 0, 1);
        s.sheet(0, 0, 145);
        s.set(8, 0, 0);
        s.copy(8, 0, 0, 0, 0);
        s.drop(8);
        s.picture(2, 0, 0, 1, 1);
        s.pairs(0, 0, 0, 0, 0);
        s.pair(0, 0, 0, 0, 0);
        s.as(99, 0);
        s.mark(1, 1, 1, 1);
        s.third(0, 1, 2);
        s.kind(0);
        s.ask(0, 0);
        s.key(1, 1);
        s.seen(0, 0, 0, 1);
        s.in(0, 0, 0, 1);
        s.count(0);
        due(s.status(), 4);
        due(s.status(), 4);
        s.sheet(0, 1, 2);
        due(s.status(), 0);
        s.set(0, 2, 1);
        due(s.status(), 2);
        s.set(0, 1, 1);
        due(s.status(), 0);
        s.drop(1);
        due(s.status(), 1);
        s.sheet(1, 0, 2);
        due(s.status(), 0);
        s.copy(0, 0, 1, 0, 1);
        due(s.status(), 5);
        s.copy(0, 0, 0, 1, 1);
        due(s.status(), 0);
        s.as(0, 4);
        due(s.status(), 3);
        s.as(0, 2);
        due(s.status(), 0);
        s.picture(0, 2, 0, 1, 1);
        due(s.status(), 1);
        s.set(0, 0, 256);
        s.picture(0, 0, 1, 2, 1);
        due(s.status(), 2);
        due(s.picture(0, 0, 0, 1, 1), BAD);
        due(s.status(), 2);
        s.picture(0, 0, 1, 1, 1);
        due(s.status(), 0);
        s.pairs(2, 1, 0, 1, 0);
        due(s.status(), 1);
        s.pairs(0, 1, 0, 1, 0);
        due(s.status(), 0);
        s.pair(0, 2, 0, 1, 0);
        due(s.status(), 2);
        due(s.pair(0, 1, 0, 1, 7), NONE);
        due(s.status(), 0);
        s.pair(0, 1, 2, 1, 0);
        s.set(0, 0, 1001);
        s.drop(2);
        due(s.pairs(0, 1, 0, 1, 0), BAD);
        due(s.pair(0, 1, 0, 1, 0), BAD);
        due(s.status(), 1);
        s.drop(0);
        due(s.status(), 0);
    }
}
