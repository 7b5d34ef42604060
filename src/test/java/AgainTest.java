/** Each answer is of what stands now: the same call, made again when another has changed what it tells of. */
public final class AgainTest extends Boundary {
    public static void main(String[] args) {
        run(AgainTest.class);
    }

    /** THIRD 0 of MARKS 0, 1, 2, with an AREA of 100 in both pictures, STILL. */
    private static ShapeBetween small() {
        ShapeBetween s = marked(new int[] {100, 100, 100, 100}, new int[] {110, 100, 110, 100},
                new int[] {100, 110, 100, 110});
        s.third(0, 1, 2);
        return s;
    }

    // ---- sheets

    static void promise02LaidTwice() {
        ShapeBetween s = new ShapeBetween();
        due(s.sheet(3, INTS, 2), 2);
        s.set(3, 1, 77);
        due(s.sheet(3, INTS, 2), 2);
        due(item(s, 3, INTS, 1), 0);
        due(s.count(0), 3);
    }

    static void promise03SetAgain() {
        ShapeBetween s = new ShapeBetween();
        due(s.set(0, 2, 70000), NULL);
        s.sheet(0, INTS, 2);
        due(s.set(0, 2, 70000), PLACE);
        s.sheet(0, INTS, 3);
        due(s.set(0, 2, 70000), 70000);
        s.sheet(0, SHORTS, 3);
        due(s.set(0, 2, 70000), 4464);
        s.sheet(0, BYTES, 3);
        due(s.set(0, 2, 70000), 112);
        s.drop(0);
        due(s.set(0, 2, 70000), NULL);
    }

    static void promise04CopiedAgain() {
        ShapeBetween s = new ShapeBetween();
        s.sheet(0, INTS, 3);
        due(s.copy(0, 1, 1, 0, 2), NULL);
        s.sheet(1, SHORTS, 1);
        due(s.copy(0, 1, 1, 0, 2), STORE);
        s.sheet(1, INTS, 1);
        due(s.copy(0, 1, 1, 0, 2), PLACE);
        s.sheet(1, INTS, 2);
        due(s.copy(0, 1, 1, 0, 2), 2);
        due(item(s, 1, INTS, 0), 0);
        s.set(0, 1, 8);
        due(item(s, 1, INTS, 0), 0);
        due(s.copy(0, 1, 1, 0, 2), 2);
        due(item(s, 1, INTS, 0), 8);
    }

    static void promise05DroppedAgain() {
        ShapeBetween s = new ShapeBetween();
        due(s.drop(4), NULL);
        s.sheet(4, BYTES, 3);
        due(s.drop(4), 3);
        due(s.drop(4), NULL);
        s.sheet(4, BYTES, 5);
        due(s.drop(4), 5);
    }

    // ---- marks, thirds

    static void promise06MarkedAgain() {
        ShapeBetween s = new ShapeBetween();
        for (int m = 0; m < 16; m++) {
            due(s.mark(1, 2, 3, 4), m);
        }
        due(s.mark(1, 2, 3, 4), FULL);
    }

    static void promise07MovedAgain() {
        ShapeBetween s = new ShapeBetween();
        due(s.move(1, 1, 5, 6), BAD);
        s.mark(1, 2, 3, 4);
        due(s.move(1, 1, 5, 6), BAD);
        s.mark(1, 2, 3, 4);
        due(s.move(1, 1, 5, 6), 1);
        due(s.move(1, 1, 5, 6), 1);
        due(s.at(1, 1, 1, 0), 5);
        due(s.at(1, 1, 1, 1), 6);
    }

    static void promise08AMarkThatWasMoved() {
        ShapeBetween s = new ShapeBetween();
        due(s.at(0, 1, 3, 0), BAD);
        s.mark(10, 20, 40, 80);
        due(s.at(0, 1, 3, 0), 60);
        due(s.at(0, 1, 3, 1), 120);
        s.move(0, 0, 100, 200);
        due(s.at(0, 1, 3, 0), 240);
        due(s.at(0, 1, 3, 1), 480);
        s.move(0, 1, 7, 9);
        due(s.at(0, 1, 3, 0), 207);
        due(s.at(0, 1, 3, 1), 409);
    }

    static void promise09JoinedAgain() {
        ShapeBetween s = new ShapeBetween();
        s.mark(0, 0, 0, 0);
        s.mark(1, 0, 1, 0);
        due(s.third(0, 1, 2), BAD);
        s.mark(0, 1, 0, 1);
        due(s.third(0, 1, 2), 0);
        due(s.third(0, 1, 2), STATE);
        s.move(2, 0, 9, 9);
        due(s.third(0, 1, 2), STATE);
    }

    static void promise10AreasFollowEachMark() {
        int[][] moves = {{0, 99, 101, 100}, {1, 112, 100, 120}, {2, 100, 107, 70}};
        for (int[] m : moves) {
            ShapeBetween s = small();
            due(s.told(0, 3), 100);
            due(s.told(0, 4), 100);
            s.move(m[0], 0, m[1], m[2]);
            due(s.told(0, 3), m[3]);
            due(s.told(0, 4), 100);
            s.move(m[0], 0, 0, 0);
            s.move(m[0], 1, m[1], m[2]);
            due(s.told(0, 4), m[3]);
            due(s.told(0, 0), 0);
            due(s.told(0, 1), 1);
            due(s.told(0, 2), 2);
        }
    }

    static void promise11AThirdWhoseMarksWereMoved() {
        ShapeBetween s = small();
        due(s.folds(0, 10), NONE);
        s.move(2, 1, 100, 100);
        due(s.folds(0, 10), 10);
        s.move(2, 1, 100, 90);
        due(s.folds(0, 10), 5);
        s.move(2, 0, 100, 90);
        due(s.folds(0, 10), 0);
        s.move(2, 0, 100, 110);
        s.move(2, 1, 100, 110);
        due(s.folds(0, 10), NONE);
    }

    static void promise12MarksMovedAndThirdsMore() {
        ShapeBetween s = small();
        due(s.first(10, 0), NONE);
        due(s.first(10, 1), NONE);
        s.mark(100, 120, 100, 100);
        s.third(0, 1, 3);
        due(s.first(10, 0), 10);
        due(s.first(10, 1), 1);
        s.move(2, 1, 100, 90);
        due(s.first(10, 0), 5);
        due(s.first(10, 1), 0);
        s.move(2, 1, 100, 110);
        s.move(3, 1, 100, 110);
        due(s.first(10, 0), NONE);
        due(s.first(10, 1), NONE);
    }

    static void promise13ThirdsMore() {
        ShapeBetween s = small();
        due(s.sides(1), 3);
        due(s.sides(2), 0);
        s.mark(120, 120, 120, 120);
        due(s.sides(1), 3);
        s.third(2, 1, 3);
        due(s.sides(1), 4);
        due(s.sides(2), 1);
        s.move(3, 0, 100, 100);
        due(s.sides(1), 4);
    }

    // ---- between

    static void promise14KeyedAgain() {
        ShapeBetween s = new ShapeBetween();
        due(s.key(500, 7), 1);
        due(s.key(500, 7), STATE);
        s.unkey();
        due(s.key(500, 7), 1);
        s.unkey();
        s.key(499, 6);
        due(s.key(500, 7), 2);
    }

    static void promise15KeysMoreAndNone() {
        ShapeBetween s = new ShapeBetween();
        due(s.eased(600), 600);
        s.key(500, 10);
        due(s.eased(600), 10);
        s.key(700, 20);
        due(s.eased(600), 15);
        s.key(800, 1000);
        due(s.eased(600), 15);
        due(s.unkey(), 3);
        due(s.unkey(), 0);
        due(s.eased(600), 600);
    }

    static void promise17MarksMovedAndThirdsMore() {
        ShapeBetween s = small();
        due(s.in(101, 108, 0, 1), 0);
        due(s.in(101, 108, 1, 1), 0);
        s.move(2, 0, 100, 105);
        due(s.in(101, 108, 0, 1), NONE);
        due(s.in(101, 108, 1, 1), 0);
        due(s.in(101, 108, 1, 2), NONE);
        s.move(2, 1, 100, 120);
        due(s.in(101, 108, 1, 2), 0);
        s.mark(90, 120, 90, 120);
        s.third(0, 1, 3);
        due(s.in(101, 108, 0, 1), 1);
        due(s.in(98, 105, 0, 1), 1);
        s.move(2, 0, 90, 110);
        due(s.in(98, 105, 0, 1), 0);
    }

    static void promise18MarksMovedInEitherPicture() {
        ShapeBetween s = small();
        dueFrom(s, 0, 104, 103, 104, 103);
        s.move(1, 1, 210, 200);
        dueFrom(s, 0, 104, 103, 144, 143);
        s.move(0, 1, 0, 50);
        dueFrom(s, 0, 104, 103, 114, 128);
        s.move(2, 1, 1000, 1000);
        dueFrom(s, 0, 104, 103, 384, 395);
        s.move(2, 0, 100, 120);
        dueFrom(s, 0, 104, 103, 234, 252);
        dueFrom(s, 1, NONE, NONE, NONE, NONE);
        s.move(0, 1, 100, 100);
        s.move(1, 1, 100, 110);
        s.move(2, 1, 90, 100);
        dueFrom(s, 1, NONE, NONE, NONE, NONE);
        s.move(2, 1, 110, 100);
        dueFrom(s, 1, NONE, NONE, NONE, NONE);
        s.move(1, 1, 110, 100);
        s.move(2, 1, 100, 110);
        dueFrom(s, 1, 104, 106, 104, 103);
    }

    private static void dueFrom(ShapeBetween s, int k, int... wants) {
        for (int what = 0; what < 4; what++) {
            due(s.from(104, 103, k, 1, what), wants[what]);
        }
    }

    static void promise19ToldAgain() {
        ShapeBetween s = covered();
        due(s.picture(0, 0, 1, 1, 1), NULL);
        s.sheet(0, INTS, 1);
        due(s.picture(0, 0, 1, 1, 1), PLACE);
        fill(s, 0, INTS, 5, 256);
        due(s.picture(0, 0, 1, 1, 1), BAD);
        s.set(0, 1, 6);
        due(s.picture(0, 0, 1, 1, 1), 1);
        s.picture(1, 0, 0, 1, 1);
        due(s.seen(9, 9, 0, 1), 6);
        s.set(0, 1, 7);
        due(s.seen(9, 9, 0, 1), 6);
        due(s.picture(0, 0, 1, 1, 1), 1);
        due(s.seen(9, 9, 0, 1), 7);
        due(s.seen(9, 9, 1, 1), 5);
    }

    static void promise20MarksMovedAndPicturesToldAnew() {
        ShapeBetween s = covered();
        fill(s, 0, INTS, 10, 20, 30, 40);
        due(s.seen(100, 100, 1, 2), STATE);
        s.picture(0, 0, 0, 2, 1);
        due(s.seen(100, 100, 1, 2), STATE);
        s.picture(1, 0, 2, 2, 1);
        due(s.seen(100, 100, 1, 2), 20);
        s.picture(1, 0, 3, 1, 1);
        due(s.seen(100, 100, 1, 2), 25);
        s.picture(0, 0, 1, 1, 1);
        due(s.seen(100, 100, 1, 2), 30);
        s.picture(0, 0, 0, 2, 1);
        s.move(0, 0, 1000, 1000);
        s.move(0, 1, 0, 0);
        due(s.seen(100, 100, 1, 2), NONE);
        s.move(0, 0, 0, 0);
        due(s.seen(100, 100, 1, 2), 25);
    }

    static void promise20WhereItIsFromFollowsTheMarks() {
        ShapeBetween s = covered();
        fill(s, 0, INTS, 10, 20, 30, 50);
        s.picture(0, 0, 0, 2, 1);
        s.picture(1, 0, 2, 2, 1);
        due(s.seen(400, 100, 1, 2), 20);
        s.move(0, 0, 600, 0);
        due(s.seen(400, 100, 1, 2), 25);
        s.move(0, 1, 600, 0);
        due(s.seen(400, 100, 1, 2), NONE);
        s.move(0, 0, 0, 0);
        due(s.seen(400, 100, 1, 2), 30);
        s.move(0, 1, 0, 0);
        due(s.seen(400, 100, 1, 2), 20);
    }

    // ---- rows paired

    static void promise21RowsThatWereChanged() {
        ShapeBetween s = new ShapeBetween();
        fill(s, 0, INTS, 1, 1, 5, 5);
        fill(s, 1, INTS, 1, 1, 5, 5);
        due(s.pairs(0, 2, 1, 2, 0), 0);
        s.set(0, 3, 6);
        due(s.pairs(0, 2, 1, 2, 0), 1);
        s.copy(0, 2, 1, 2, 2);
        due(s.pairs(0, 2, 1, 2, 0), 0);
        s.sheet(1, INTS, 4);
        due(s.pairs(0, 2, 1, 2, 0), 1 + 1 + 5 + 6);
        s.set(1, 0, -1);
        due(s.pairs(0, 2, 1, 2, 0), BAD);
        s.sheet(1, INTS, 3);
        due(s.pairs(0, 2, 1, 2, 0), PLACE);
        s.drop(1);
        due(s.pairs(0, 2, 1, 2, 0), NULL);
    }

    static void promise22RowsThatWereChanged() {
        ShapeBetween s = new ShapeBetween();
        fill(s, 0, INTS, 0, 0, 9, 9);
        fill(s, 1, INTS, 0, 0, 9, 9);
        due(s.pair(0, 2, 1, 2, 1), 101);
        due(s.pair(0, 2, 1, 2, 2), NONE);
        fill(s, 0, INTS, 0, 0, 9, 9, 9, 9);
        due(s.pair(0, 2, 1, 2, 2), NONE);
        due(s.pair(0, 3, 1, 2, 2), 201);
        s.set(0, 2, 0);
        s.set(0, 3, 0);
        due(s.pair(0, 3, 1, 2, 1), 100);
        s.set(0, 2, 9);
        s.set(0, 3, 9);
        due(s.pair(0, 3, 1, 2, 1), 101);
        due(s.pair(1, 2, 0, 3, 1), 101);
        s.sheet(0, INTS, 5);
        due(s.pair(0, 3, 1, 2, 1), PLACE);
    }

    // ---- asked

    static void promise23KindsFollowEachMark() {
        for (int mark = 0; mark < 3; mark++) {
            ShapeBetween s = small();
            due(s.kind(0), 2);
            int x = s.at(mark, 0, 1, 0);
            s.move(mark, 1, x + 1, s.at(mark, 0, 1, 1));
            due(s.kind(0), 1);
            s.move(mark, 0, x + 1, s.at(mark, 0, 1, 1));
            due(s.kind(0), 2);
        }
    }

    static void promise24TheAreaFollowsTheMarks() {
        ShapeBetween s = small();
        due(s.as(0, 1), 100);
        due(s.as(0, 3), KIND);
        s.move(2, 0, 100, 105);
        due(s.as(0, 1), 100);
        due(s.as(0, 2), KIND);
        s.move(2, 1, 100, 107);
        due(s.as(0, 1), 70);
        s.move(2, 0, 100, 100);
        due(s.as(0, 1), KIND);
        due(s.as(0, 3), 70);
        s.move(2, 1, 100, 90);
        due(s.as(0, 3), -100);
        s.move(2, 0, 100, 101);
        due(s.as(0, 3), KIND);
        due(s.as(0, 4), -100);
    }

    static void promise25SizeFollowsTheMarks() {
        ShapeBetween s = small();
        due(s.ask(0, 0), 50 + 50 + 103);
        s.move(2, 1, 100, 112);
        due(s.ask(0, 0), 50 + 60);
        s.move(2, 1, 100, 114);
        due(s.ask(0, 0), 50 + 70);
        s.move(2, 0, 100, 102);
        due(s.ask(0, 0), 10 + 70);
        s.move(2, 0, 100, 100);
        due(s.ask(0, 0), 0);
        s.move(2, 0, 100, 80);
        due(s.ask(0, 0), -100);
        s.move(2, 0, 100, 114);
        due(s.ask(0, 0), 70 + 70 + 103);
    }

    static void promise25MarkFollowsTheMarks() {
        ShapeBetween s = small();
        due(s.ask(0, 1), 103);
        s.move(2, 1, 100, 112);
        due(s.ask(0, 1), 103);
        s.move(2, 1, 100, 100);
        due(s.ask(0, 1), 3);
        s.move(2, 1, 100, 99);
        due(s.ask(0, 1), 3 + 50);
        s.move(2, 0, 100, 80);
        due(s.ask(0, 1), 3 - 100);
    }

    static void promise27KindsAreCountedAsTheyAre() {
        ShapeBetween s = small();
        int[][] moves = {{0, 110, 1, 1, 0, 0}, {1, 111, 1, 0, 0, 0}, {1, 100, 0, 0, 1, 0}, {1, 99, 0, 0, 0, 1},
            {0, 100, 0, 0, 1, 0}, {0, 99, 0, 0, 0, 1}, {1, 110, 0, 0, 0, 1}, {0, 110, 1, 1, 0, 0}};
        for (int[] m : moves) {
            s.move(2, m[0], 100, m[1]);
            for (int what = 3; what <= 6; what++) {
                due(s.count(what), m[what - 1]);
            }
        }
    }
}
