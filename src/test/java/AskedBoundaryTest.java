/** Promises 23 to 28 at their boundaries: KINDS, ASKS, THE TRACE, what is counted, and the FINDING of the latest call. */
public final class AskedBoundaryTest extends Boundary {
    private static final int SOUND = 1, STILL = 2, FLAT = 3, TURNED = 4;

    public static void main(String[] args) {
        run(AskedBoundaryTest.class);
    }

    private static ShapeBetween triangle(int before, int after) {
        return triangles(new int[] {before, after});
    }

    private static void dueTrace(ShapeBetween s, int... bodies) {
        due(s.trace(-1), NONE);
        for (int i = 0; i < bodies.length; i++) {
            due(s.trace(i), bodies[i]);
        }
        for (int i = bodies.length; i <= 16; i++) {
            due(s.trace(i), NONE);
        }
    }

    // ---- 23: kind

    static void promise23ThirdsAreThoseThatThereAre() {
        leaves(NEW, BAD, s -> s.kind(0), s -> s.kind(-1));
        bounds(BUSY, BAD, (s, v) -> s.kind(v), 0, STILL, 3, FLAT);
        bounds(BRIMFUL, BAD, (s, v) -> s.kind(v), 0, STILL, 23, TURNED);
    }

    static void promise23AnAreaOf1InBothIsSound() {
        due(triangle(1, 2).kind(0), SOUND);
        due(triangle(2, 1).kind(0), SOUND);
        ShapeBetween s = triangle(1, 1);
        s.move(2, 1, 1, 11);
        due(s.told(0, 4), 1);
        due(s.kind(0), SOUND);
    }

    static void promise23AnAreaOf0InOneOrBothIsFlat() {
        for (int other : new int[] {-2, -1, 0, 1, 2}) {
            due(triangle(0, other).kind(0), FLAT);
            due(triangle(other, 0).kind(0), FLAT);
        }
    }

    static void promise23AnAreaBelow0IsTurned() {
        due(triangle(-1, 1).kind(0), TURNED);
        due(triangle(1, -1).kind(0), TURNED);
        due(triangle(-1, -1).kind(0), TURNED);
        due(triangle(-1, -2).kind(0), TURNED);
        due(triangle(2, -1).kind(0), TURNED);
    }

    static void promise23EachMarkAtOnePlaceIsStill() {
        due(triangle(1, 1).kind(0), STILL);
        int[][] marks = {{10, 10, 10, 10}, {20, 10, 20, 10}, {10, 20, 10, 20}};
        int[][] steps = {{1, 0}, {-1, 0}, {0, 1}, {0, -1}};
        for (int mark = 0; mark < 3; mark++) {
            for (int picture = 0; picture < 2; picture++) {
                for (int[] step : steps) {
                    ShapeBetween s = marked(marks);
                    s.third(0, 1, 2);
                    due(s.kind(0), STILL);
                    s.move(mark, picture, marks[mark][0] + step[0], marks[mark][1] + step[1]);
                    due(s.kind(0), SOUND);
                    s.move(mark, 1 - picture, marks[mark][0] + step[0], marks[mark][1] + step[1]);
                    due(s.kind(0), STILL);
                }
            }
        }
    }

    static void promise23EachThirdGoesByItsOwnMarks() {
        int[] area = {20, 20};
        ShapeBetween s = triangles(area, area, area, area, area);
        for (int mark = 0; mark < 15; mark++) {
            int x = s.at(mark, 0, 1, 0);
            int y = s.at(mark, 0, 1, 1);
            s.move(mark, 1, x, y + 1);
            for (int third = 0; third < 5; third++) {
                due(s.kind(third), third == mark / 3 ? SOUND : STILL);
            }
            s.move(mark, 1, x, y);
        }
    }

    static void promise23StillMarksThatAreNotSoundAreNot() {
        due(triangle(0, 0).kind(0), FLAT);
        due(triangle(-1, -1).kind(0), TURNED);
    }

    static void promise23TheKindFollowsTheMarks() {
        ShapeBetween s = triangle(1, 1);
        s.move(2, 1, 0, 10);
        due(s.kind(0), FLAT);
        s.move(2, 1, 0, 9);
        due(s.kind(0), TURNED);
        s.move(2, 1, 0, 12);
        due(s.kind(0), SOUND);
        s.move(2, 0, 0, 12);
        due(s.kind(0), STILL);
    }

    static void promise23ItChangesNothing() {
        leaves(BUSY, STILL, s -> s.kind(0));
        leaves(BUSY, SOUND, s -> s.kind(1));
        leaves(BUSY, TURNED, s -> s.kind(2));
    }

    // ---- 24: as

    static void promise24ThirdsAreThoseThatThereAre() {
        leaves(NEW, BAD, s -> s.as(0, 0), s -> s.as(-1, 3));
        bounds(BUSY, BAD, (s, v) -> s.as(v, 0), 0, 1000000, 3, 60000);
        bounds(BRIMFUL, BAD, (s, v) -> s.as(v, 0), 0, 1000000, 23, -19720);
    }

    static void promise24KindsAre0To4() {
        bounds(BUSY, BAD, (s, v) -> s.as(0, v), 0, 1000000, 4, KIND);
        bounds(BRIMFUL, BAD, (s, v) -> s.as(23, v), 0, -19720, 4, -19720);
    }

    static void promise24BadComesAheadOfKind() {
        leaves(BUSY, BAD, s -> s.as(4, 3), s -> s.as(-1, 4), s -> s.as(0, 5), s -> s.as(2, -1),
                s -> s.as(MAX, MAX), s -> s.as(MIN, MIN));
    }

    static void promise24AStillOneIsSoundToo() {
        clears(BUSY, 1000000, s -> s.as(0, 0), s -> s.as(0, SOUND), s -> s.as(0, STILL));
        finds(BUSY, KIND, s -> s.as(0, FLAT), s -> s.as(0, TURNED));
    }

    static void promise24ASoundOneIsNotStill() {
        clears(BUSY, 50000, s -> s.as(1, 0), s -> s.as(1, SOUND));
        finds(BUSY, KIND, s -> s.as(1, STILL), s -> s.as(1, FLAT), s -> s.as(1, TURNED));
    }

    static void promise24ATurnedOneIsNoOther() {
        clears(BUSY, -200000, s -> s.as(2, 0), s -> s.as(2, TURNED));
        finds(BUSY, KIND, s -> s.as(2, SOUND), s -> s.as(2, STILL), s -> s.as(2, FLAT));
    }

    static void promise24AFlatOneIsNoOther() {
        clears(BUSY, 60000, s -> s.as(3, 0), s -> s.as(3, FLAT));
        finds(BUSY, KIND, s -> s.as(3, SOUND), s -> s.as(3, STILL), s -> s.as(3, TURNED));
        ShapeBetween s = triangle(0, -1);
        due(s.as(0, FLAT), -1);
        due(s.as(0, TURNED), KIND);
    }

    static void promise24TheAreaMayBe0() {
        due(triangle(5, 0).as(0, FLAT), 0);
        due(triangle(0, 0).as(0, 0), 0);
    }

    // ---- 25: ask

    static void promise25ThirdsAreThoseThatThereAre() {
        leaves(NEW, BAD, s -> s.ask(0, 0), s -> s.ask(-1, 1));
        bounds(BUSY, BAD, (s, v) -> s.ask(v, 0), 0, 1000103, 3, 0);
        bounds(BRIMFUL, BAD, (s, v) -> s.ask(v, 1), 0, 103, 23, 28 - 8950);
    }

    static void promise25AsksAre0And1() {
        bounds(BUSY, BAD, (s, v) -> s.ask(1, v), 0, 55000, 1, 112);
    }

    static void promise25TheTraceStaysWhereItIsRefused() {
        ShapeBetween s = BUSY.make();
        due(s.ask(4, 0), BAD);
        due(s.ask(0, 2), BAD);
        due(s.ask(-1, 0), BAD);
        due(s.ask(0, -1), BAD);
        dueTrace(s, 12, 11, 10, 21, 20);
    }

    static void promise25TheTraceIsEmptyAheadOfIt() {
        String none = ": " + NONE;
        changes(BUSY, 0, s -> s.ask(3, 0), "trace 0: 13", "trace 1" + none, "trace 2" + none, "trace 3" + none,
                "trace 4" + none);
        changes(BUSY, 112, s -> s.ask(1, 1), "trace 0: 21", "trace 1: 20", "trace 2" + none,
                "trace 3" + none, "trace 4" + none);
        ShapeBetween s = BUSY.make();
        for (int again = 0; again < 5; again++) {
            due(s.ask(0, 0), 1000103);
            dueTrace(s, 12, 11, 10, 21, 20);
        }
    }

    static void promise25HalfAnAreaIsCutTowards0() {
        int[] areas = {-4, -3, -2, -1, 1, 2, 3, 4};
        int[] halves = {-2, -1, -1, 0, 0, 1, 1, 2};
        for (int i = 0; i < areas.length; i++) {
            ShapeBetween turned = triangle(areas[i], -1);
            due(turned.ask(0, 0), halves[i]);
            dueTrace(turned, 10);
            due(turned.ask(0, 1), 3 + halves[i]);
            dueTrace(turned, 22, 20, 10);
        }
    }

    static void promise25EachPictureIsCutByItself() {
        ShapeBetween s = triangle(1, 3);
        due(s.ask(0, 0), 1);
        dueTrace(s, 11, 10);
        due(triangle(3, 1).ask(0, 0), 1);
        due(triangle(3, 5).ask(0, 0), 1 + 2);
        due(triangle(1, 2).ask(0, 0), 1);
        ShapeBetween still = triangle(1, 1);
        due(still.ask(0, 0), 103);
        dueTrace(still, 12, 11, 10, 21, 20);
        due(triangle(3, 3).ask(0, 0), 1 + 1 + 103);
    }

    static void promise25OfFlatOnesSizeIs0() {
        for (int other : new int[] {-9, 0, 9}) {
            for (ShapeBetween s : new ShapeBetween[] {triangle(0, other), triangle(other, 0)}) {
                due(s.ask(0, 0), 0);
                dueTrace(s, 13);
                due(s.ask(0, 1), 3);
                dueTrace(s, 20);
            }
        }
    }

    static void promise25TheGreatestAndTheLeast() {
        ShapeBetween s = BRIMFUL.make();
        due(s.ask(0, 0), 500000 + 500000 + 103);
        s.move(1, 0, 0, 1000);
        s.move(2, 0, 1000, 0);
        due(s.ask(0, 0), -500000);
        due(s.ask(0, 1), 3 - 500000);
        dueTrace(s, 22, 20, 10);
    }

    // ---- 26: trace

    static void promise26NoneAheadOfTheFirstAsk() {
        leaves(NEW, NONE, s -> s.trace(0), s -> s.trace(-1), s -> s.trace(15), s -> s.trace(16),
                s -> s.trace(MIN), s -> s.trace(MAX));
    }

    static void promise26NoneBelow0AndBehindTheLast() {
        leaves(BUSY, 12, s -> s.trace(0));
        leaves(BUSY, 20, s -> s.trace(4));
        leaves(BUSY, NONE, s -> s.trace(-1), s -> s.trace(5), s -> s.trace(15), s -> s.trace(16),
                s -> s.trace(17), s -> s.trace(MIN), s -> s.trace(MAX));
    }

    static void promise26OtherCallsLeaveIt() {
        ShapeBetween s = BUSY.make();
        s.mark(1, 1, 1, 1);
        s.third(1, 2, 3);
        s.move(0, 0, 1, 1);
        s.kind(0);
        s.as(0, 1);
        s.unkey();
        s.sheet(0, 0, 0);
        s.count(3);
        s.seen(1, 1, 0, 1);
        dueTrace(s, 12, 11, 10, 21, 20);
    }

    // ---- 27: count

    static void promise27WhatIs0To7() {
        bounds(NEW, BAD, (s, v) -> s.count(v), 0, 0, 7, 0);
        bounds(BUSY, BAD, (s, v) -> s.count(v), 0, 5, 7, 3);
        bounds(BRIMFUL, BAD, (s, v) -> s.count(v), 0, 8, 7, 6);
    }

    static void promise27EachCount() {
        int[] busy = {5, 7, 4, 2, 1, 1, 1, 3};
        int[] brimful = {8, 16, 24, 13, 1, 0, 11, 6};
        for (int what = 0; what < 8; what++) {
            int of = what;
            leaves(NEW, 0, s -> s.count(of));
            leaves(BUSY, busy[what], s -> s.count(of));
            leaves(BRIMFUL, brimful[what], s -> s.count(of));
        }
    }

    static void promise27StillOnesAreSoundToo() {
        ShapeBetween s = triangle(1, 1);
        due(s.count(3), 1);
        due(s.count(4), 1);
        s.move(2, 1, 0, 12);
        due(s.count(3), 1);
        due(s.count(4), 0);
        s.move(2, 1, 0, 10);
        due(s.count(3), 0);
        due(s.count(5), 1);
        s.move(2, 1, 0, 9);
        due(s.count(5), 0);
        due(s.count(6), 1);
    }

    // ---- 28: status

    static void promise28ItIs0AtFirst() {
        due(new ShapeBetween().status(), 0);
        due(BUSY.make().status(), 0);
    }

    static void promise28EachFindingHasItsNumber() {
        finds(BUSY, NULL, s -> s.set(5, 0, 0));
        finds(BUSY, PLACE, s -> s.set(0, 4, 0));
        finds(BUSY, KIND, s -> s.as(0, 3));
        finds(BUSY, SIZE, s -> s.sheet(0, 0, -1));
        finds(BUSY, STORE, s -> s.copy(0, 0, 1, 0, 0));
        int[] answers = {NULL, PLACE, KIND, SIZE, STORE};
        for (int number = 1; number <= 5; number++) {
            due(answers[number - 1], -1000010 - number);
        }
    }

    static void promise28TheLatestFindingIsTold() {
        ShapeBetween s = BUSY.make();
        due(s.set(5, 0, 0), NULL);
        due(s.status(), 1);
        due(s.set(0, 4, 0), PLACE);
        due(s.status(), 2);
        due(s.as(0, 3), KIND);
        due(s.status(), 3);
        due(s.status(), 3);
        due(s.sheet(0, 0, -1), SIZE);
        due(s.status(), 4);
        due(s.copy(0, 0, 1, 0, 0), STORE);
        due(s.status(), 5);
        due(s.drop(5), NULL);
        due(s.status(), 1);
    }

    static void promise28BadLeavesIt() {
        leaves(BUSY, BAD, s -> s.sheet(8, 0, 0), s -> s.set(8, 0, 0), s -> s.copy(8, 0, 0, 0, 0), s -> s.drop(8),
                s -> s.picture(2, 0, 0, 1, 1), s -> s.pairs(8, 1, 0, 1, 0), s -> s.pair(8, 1, 0, 1, 0), s -> s.as(9, 0));
    }

    /** Here the BAD comes behind the FINDINGS that the call might have had. */
    static void promise28BadOfNumbersLeavesIt() {
        for (int sheet : new int[] {0, 2}) {
            ShapeBetween s = new ShapeBetween();
            fill(s, sheet, INTS, 1001, 0);
            for (int before = 0; before < 2; before++) {
                due(before == 0 ? s.copy(sheet, 0, sheet, 0, 2) : s.drop(5), before == 0 ? 2 : NULL);
                due(s.picture(0, sheet, 0, 1, 1), BAD);
                due(s.status(), before);
                due(s.pairs(sheet, 1, sheet, 1, 0), BAD);
                due(s.status(), before);
                due(s.pair(sheet, 1, sheet, 1, 0), BAD);
                due(s.status(), before);
            }
        }
    }

    static void promise28StateAndFullLeaveIt() {
        leaves(BUSY, STATE, s -> s.third(0, 1, 2), s -> s.key(0, 0));
        leaves(NEW, STATE, s -> s.seen(0, 0, 0, 1));
        leaves(BRIMFUL, FULL, s -> s.mark(0, 0, 0, 0), s -> s.third(3, 9, 15), s -> s.key(1000, 1000));
    }

    static void promise28CallsWithoutASheetLeaveIt() {
        Call[] calls = {s -> s.mark(0, 0, 0, 0), s -> s.move(0, 0, 0, 0), s -> s.at(0, 0, 1, 0),
            s -> s.third(1, 2, 3), s -> s.told(0, 0), s -> s.folds(0, 1), s -> s.first(1, 0), s -> s.sides(1),
            s -> s.key(1000, 1000), s -> s.eased(0), s -> s.unkey(), s -> s.in(0, 0, 0, 1), s -> s.from(0, 0, 0, 1, 0),
            s -> s.seen(0, 0, 0, 1), s -> s.kind(0), s -> s.ask(0, 0), s -> s.trace(0), s -> s.count(0),
            s -> s.status()};
        for (Call call : calls) {
            ShapeBetween s = BUSY.make();
            s.set(0, 4, 0);
            call.on(s);
            due(s.status(), 2);
        }
    }

    static void promise28ACallWithoutAFindingMakesIt0() {
        Call[] calls = {s -> s.sheet(0, 0, 0), s -> s.sheet(7, 2, 144), s -> s.set(0, 0, 0),
            s -> s.copy(0, 0, 0, 0, 0), s -> s.copy(2, 0, 4, 0, 4), s -> s.drop(0), s -> s.drop(3),
            s -> s.picture(0, 0, 0, 1, 1), s -> s.pairs(0, 1, 0, 1, 0), s -> s.pair(0, 1, 0, 1, 0),
            s -> s.pair(0, 1, 0, 1, -1), s -> s.pair(0, 1, 0, 1, 1), s -> s.as(0, 0), s -> s.as(2, TURNED)};
        for (Call call : calls) {
            ShapeBetween s = BUSY.make();
            s.set(0, 4, 0);
            due(s.status(), 2);
            call.on(s);
            due(s.status(), 0);
        }
    }

    static void promise28AskingForItLeavesIt() {
        ShapeBetween s = BRIMFUL.make();
        due(s.sheet(0, BYTES, -1), SIZE);
        due(s.status(), 4);
        due(s.status(), 4);
        due(s.drop(0), 2);
        due(s.status(), 0);
        due(s.status(), 0);
    }
}
