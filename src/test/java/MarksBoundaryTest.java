/** Promises 6 to 13 at their boundaries: MARKS and THIRDS, and how they fold. */
public final class MarksBoundaryTest extends Boundary {
    public static void main(String[] args) {
        run(MarksBoundaryTest.class);
    }

    // ---- 6: mark

    static void promise06PlacesAre0To1000() {
        for (World world : new World[] {NEW, BUSY}) {
            int number = world == NEW ? 0 : 7;
            bounds(world, BAD, (s, v) -> s.mark(v, 1, 2, 3), 0, number, 1000, number);
            bounds(world, BAD, (s, v) -> s.mark(0, v, 2, 3), 0, number, 1000, number);
            bounds(world, BAD, (s, v) -> s.mark(0, 1, v, 3), 0, number, 1000, number);
            bounds(world, BAD, (s, v) -> s.mark(0, 1, 2, v), 0, number, 1000, number);
        }
    }

    static void promise06BadComesAheadOfFull() {
        bounds(BRIMFUL, BAD, (s, v) -> s.mark(v, 1, 2, 3), 0, FULL, 1000, FULL);
        bounds(BRIMFUL, BAD, (s, v) -> s.mark(0, v, 2, 3), 0, FULL, 1000, FULL);
        bounds(BRIMFUL, BAD, (s, v) -> s.mark(0, 1, v, 3), 0, FULL, 1000, FULL);
        bounds(BRIMFUL, BAD, (s, v) -> s.mark(0, 1, 2, v), 0, FULL, 1000, FULL);
    }

    static void promise06SixteenAreFull() {
        ShapeBetween s = new ShapeBetween();
        for (int m = 0; m < 16; m++) {
            due(s.mark(7, 7, 7, 7), m);
        }
        due(s.mark(7, 7, 7, 7), FULL);
        due(s.count(1), 16);
        leaves(BRIMFUL, FULL, w -> w.mark(0, 0, 0, 0), w -> w.mark(1000, 1000, 1000, 1000));
    }

    static void promise06JustThatMarkIsNew() {
        changes(BUSY, 7, s -> s.mark(1000, 0, 0, 1000), "count 1: 8", "mark 7 x0: 1000", "mark 7 y0: 0",
                "mark 7 x1: 0", "mark 7 y1: 1000");
    }

    // ---- 7: move

    static void promise07MarksAreThoseThatThereAre() {
        leaves(NEW, BAD, s -> s.move(0, 0, 5, 5), s -> s.move(-1, 0, 5, 5));
        bounds(BUSY, BAD, (s, v) -> s.move(v, 0, 5, 5), 0, 1, 6, 1);
        bounds(BRIMFUL, BAD, (s, v) -> s.move(v, 1, 5, 5), 0, 1, 15, 1);
    }

    static void promise07PicturesAre0And1() {
        bounds(BUSY, BAD, (s, v) -> s.move(6, v, 5, 5), 0, 1, 1, 1);
    }

    static void promise07PlacesAre0To1000() {
        for (int picture = 0; picture < 2; picture++) {
            int in = picture;
            bounds(BUSY, BAD, (s, v) -> s.move(6, in, v, 5), 0, 1, 1000, 1);
            bounds(BUSY, BAD, (s, v) -> s.move(6, in, 5, v), 0, 1, 1000, 1);
        }
    }

    static void promise07JustThatPlaceChanges() {
        changes(BUSY, 1, s -> s.move(6, 0, 400, 400), "mark 6 x0: 400", "mark 6 y0: 400");
        changes(BUSY, 1, s -> s.move(6, 1, 1000, 0), "mark 6 x1: 1000", "mark 6 y1: 0");
        changes(BUSY, 1, s -> s.move(6, 1, 600, 600));
        changes(BRIMFUL, 1, s -> s.move(15, 1, 601, 225), "mark 15 x1: 601");
    }

    // ---- 8: at

    static void promise08MarksAreThoseThatThereAre() {
        leaves(NEW, BAD, s -> s.at(0, 0, 1, 0));
        bounds(BUSY, BAD, (s, v) -> s.at(v, 0, 1, 0), 0, 0, 6, 500);
        bounds(BRIMFUL, BAD, (s, v) -> s.at(v, 1, 1, 1), 0, 0, 15, 225);
    }

    static void promise08TicksAreOf1To100() {
        bounds(BUSY, BAD, (s, v) -> s.at(3, 0, v, 0), 1, 100, 100, 10000);
        bounds(BUSY, BAD, (s, v) -> s.at(3, v, v, 0), 1, 200, 100, 20000);
    }

    static void promise08TicksAre0ToN() {
        bounds(BUSY, BAD, (s, v) -> s.at(3, v, 1, 0), 0, 100, 1, 200);
        bounds(BUSY, BAD, (s, v) -> s.at(3, v, 7, 0), 0, 700, 7, 1400);
        bounds(BUSY, BAD, (s, v) -> s.at(3, v, 100, 0), 0, 10000, 100, 20000);
    }

    static void promise08XAndYAre0And1() {
        bounds(BUSY, BAD, (s, v) -> s.at(3, 1, 2, v), 0, 300, 1, 200);
    }

    static void promise08NumbersAreToldTimesN() {
        ShapeBetween s = marked(new int[] {0, 1000, 1000, 0}, new int[] {1000, 1000, 1000, 1000});
        for (int k = 0; k <= 100; k++) {
            due(s.at(0, k, 100, 0), 1000 * k);
            due(s.at(0, k, 100, 1), 100000 - 1000 * k);
            due(s.at(1, k, 100, 0), 100000);
        }
    }

    static void promise08ItChangesNothing() {
        leaves(BUSY, 300, s -> s.at(3, 1, 2, 0));
    }

    // ---- 9: third

    static void promise09MarksAreThoseThatThereAre() {
        leaves(NEW, BAD, s -> s.third(0, 1, 2));
        bounds(BUSY, BAD, (s, v) -> s.third(v, 4, 5), 0, 4, 6, 4);
        bounds(BUSY, BAD, (s, v) -> s.third(4, v, 5), 0, 4, 6, 4);
        bounds(BUSY, BAD, (s, v) -> s.third(4, 5, v), 0, 4, 6, 4);
    }

    static void promise09ThreeMarksAreUnlike() {
        for (World world : new World[] {BUSY, BRIMFUL}) {
            leaves(world, BAD, s -> s.third(0, 0, 1), s -> s.third(0, 1, 0), s -> s.third(1, 0, 0),
                    s -> s.third(6, 6, 6), s -> s.third(5, 6, 6));
        }
    }

    static void promise09MarksAtOnePlaceAreUnlikeMarks() {
        ShapeBetween s = marked(new int[] {5, 5, 5, 5}, new int[] {5, 5, 5, 5}, new int[] {5, 5, 5, 5});
        due(s.third(0, 1, 2), 0);
        due(s.kind(0), 3);
    }

    static void promise09TheSameThreeInAnyOrderAreState() {
        leaves(BUSY, STATE, s -> s.third(3, 4, 5), s -> s.third(3, 5, 4), s -> s.third(4, 3, 5),
                s -> s.third(4, 5, 3), s -> s.third(5, 3, 4), s -> s.third(5, 4, 3), s -> s.third(0, 1, 2),
                s -> s.third(6, 3, 0));
    }

    static void promise09TwoOfTheSameAreNot() {
        due(BUSY.make().third(3, 4, 6), 4);
        due(BUSY.make().third(6, 4, 5), 4);
        due(BUSY.make().third(3, 6, 5), 4);
        due(BUSY.make().third(2, 1, 3), 4);
    }

    static void promise09TwentyFourAreFull() {
        ShapeBetween s = new ShapeBetween();
        for (int m = 0; m < 16; m++) {
            s.mark(m, m * m, m, m * m);
        }
        for (int t = 0; t < 24; t++) {
            due(s.third(t < 13 ? 0 : 1, 2 + t % 13, 3 + t % 13), t);
        }
        due(s.third(13, 14, 15), FULL);
        due(s.count(2), 24);
        leaves(BRIMFUL, FULL, w -> w.third(13, 14, 15), w -> w.third(3, 9, 15), w -> w.third(0, 1, 3));
    }

    static void promise09BadComesAheadOfStateAndFull() {
        bounds(BRIMFUL, BAD, (s, v) -> s.third(v, 7, 9), 0, FULL, 15, FULL);
        bounds(BRIMFUL, BAD, (s, v) -> s.third(7, v, 9), 0, FULL, 15, FULL);
        bounds(BRIMFUL, BAD, (s, v) -> s.third(7, 9, v), 0, FULL, 15, FULL);
    }

    static void promise09StateComesAheadOfFull() {
        leaves(BRIMFUL, STATE, s -> s.third(2, 1, 0), s -> s.third(14, 13, 1), s -> s.third(15, 0, 14));
    }

    static void promise09JustThatThirdIsNew() {
        changes(BUSY, 4, s -> s.third(6, 5, 4), "count 2: 5", "count 3: 3", "third 4 mark 0: 6",
                "third 4 mark 1: 5", "third 4 mark 2: 4");
    }

    // ---- 10: told

    static void promise10ThirdsAreThoseThatThereAre() {
        leaves(NEW, BAD, s -> s.told(0, 0), s -> s.told(-1, 3));
        bounds(BUSY, BAD, (s, v) -> s.told(v, 1), 0, 1, 3, 3);
        bounds(BRIMFUL, BAD, (s, v) -> s.told(v, 2), 0, 2, 23, 14);
    }

    static void promise10WhatIs0To4() {
        bounds(BUSY, BAD, (s, v) -> s.told(1, v), 0, 3, 4, 50000);
        leaves(BUSY, 4, s -> s.told(1, 1));
        leaves(BUSY, 5, s -> s.told(1, 2));
        leaves(BUSY, 60000, s -> s.told(1, 3));
    }

    static void promise10MarksStandAsTheyWereGiven() {
        ShapeBetween s = marked(new int[] {1, 1, 1, 1}, new int[] {2, 1, 2, 1}, new int[] {3, 5, 3, 5});
        s.third(2, 0, 1);
        due(s.told(0, 0), 2);
        due(s.told(0, 1), 0);
        due(s.told(0, 2), 1);
    }

    static void promise10AreasGoFromLeastToGreatest() {
        int[] areas = {-1, 0, 1};
        for (int before : areas) {
            for (int after : areas) {
                ShapeBetween s = triangles(new int[] {before, after});
                due(s.told(0, 3), before);
                due(s.told(0, 4), after);
            }
        }
        ShapeBetween s = marked(new int[] {0, 0, 0, 0}, new int[] {1000, 0, 0, 1000},
                new int[] {0, 1000, 1000, 0}, new int[] {1000, 1000, 1000, 1000});
        s.third(0, 1, 2);
        s.third(3, 1, 2);
        due(s.told(0, 3), 1000000);
        due(s.told(0, 4), -1000000);
        due(s.told(1, 3), -1000000);
        due(s.told(1, 4), 1000000);
    }

    // ---- 11: folds

    static void promise11ThirdsAreThoseThatThereAre() {
        leaves(NEW, BAD, s -> s.folds(0, 1));
        bounds(BUSY, BAD, (s, v) -> s.folds(v, 1), 0, NONE, 3, 0);
        bounds(BRIMFUL, BAD, (s, v) -> s.folds(v, 100), 0, NONE, 23, 0);
    }

    static void promise11TicksAreOf1To100() {
        bounds(BUSY, BAD, (s, v) -> s.folds(1, v), 1, NONE, 100, NONE);
        bounds(BUSY, BAD, (s, v) -> s.folds(2, v), 1, 0, 100, 0);
    }

    static void promise11AnAreaOf0IsAFoldAndOneOf1IsNot() {
        for (int n : new int[] {1, 2, 99, 100}) {
            due(triangles(new int[] {1, 1}).folds(0, n), NONE);
            due(triangles(new int[] {0, 1}).folds(0, n), 0);
            due(triangles(new int[] {0, 0}).folds(0, n), 0);
            due(triangles(new int[] {-1, 1}).folds(0, n), 0);
            due(triangles(new int[] {-1, -1}).folds(0, n), 0);
        }
    }

    static void promise11TheLastTickCountsToo() {
        for (int n : new int[] {1, 2, 99, 100}) {
            due(triangles(new int[] {1, 0}).folds(0, n), n);
            due(triangles(new int[] {9, 0}).folds(0, n), n);
            due(triangles(new int[] {9, 1}).folds(0, n), NONE);
        }
    }

    static void promise11TheFirstTickNotUprightIsTold() {
        int[][] dueOf = {{1, 1}, {2, 1}, {3, 2}, {4, 2}, {99, 50}, {100, 50}};
        for (int[] of : dueOf) {
            due(triangles(new int[] {1, -1}).folds(0, of[0]), of[1]);
        }
        due(triangles(new int[] {3, -1}).folds(0, 4), 3);
        due(triangles(new int[] {3, -1}).folds(0, 3), 3);
        due(triangles(new int[] {1, -3}).folds(0, 4), 1);
        due(triangles(new int[] {1, -3}).folds(0, 3), 1);
        due(triangles(new int[] {1, -3}).folds(0, 5), 2);
    }

    /** A half turn, a mere point halfway: an odd number of TICKS steps over it. */
    static void promise11OnlyTicksAreLookedAt() {
        ShapeBetween s = marked(new int[] {0, 0, 10, 10}, new int[] {10, 0, 0, 10}, new int[] {0, 10, 10, 0});
        s.third(0, 1, 2);
        due(s.folds(0, 1), NONE);
        due(s.folds(0, 2), 1);
        due(s.folds(0, 99), NONE);
        due(s.folds(0, 100), 50);
    }

    /** Times 100 by 100 these areas are beyond an int, and would come out with the other sign. */
    static void promise11GreatAreasDoNotWrapAround() {
        ShapeBetween s = marked(new int[] {0, 0, 0, 0}, new int[] {1000, 0, 1000, 0},
                new int[] {0, 300, 0, 300}, new int[] {0, 1000, 0, 1000}, new int[] {0, 500, 0, 500});
        s.third(0, 1, 2);
        s.third(0, 2, 3);
        s.third(1, 0, 4);
        s.third(0, 1, 3);
        due(s.told(0, 3), 300000);
        due(s.folds(0, 100), NONE);
        due(s.folds(0, 99), NONE);
        due(s.told(1, 3), 0);
        due(s.folds(1, 100), 0);
        due(s.told(2, 3), -500000);
        due(s.folds(2, 100), 0);
        due(s.folds(3, 100), NONE);
        ShapeBetween turned = marked(new int[] {0, 0, 0, 0}, new int[] {0, 300, 0, 300},
                new int[] {1000, 0, 1000, 0});
        turned.third(0, 1, 2);
        due(turned.told(0, 3), -300000);
        due(turned.folds(0, 100), 0);
    }

    static void promise11ItChangesNothing() {
        leaves(BUSY, NONE, s -> s.folds(0, 100));
        leaves(BUSY, 0, s -> s.folds(3, 100));
    }

    // ---- 12: first

    static void promise12TicksAreOf1To100() {
        bounds(NEW, BAD, (s, v) -> s.first(v, 0), 1, NONE, 100, NONE);
        bounds(BUSY, BAD, (s, v) -> s.first(v, 0), 1, 0, 100, 0);
        bounds(BUSY, BAD, (s, v) -> s.first(v, 1), 1, 2, 100, 2);
    }

    static void promise12WhatIs0Or1() {
        bounds(NEW, BAD, (s, v) -> s.first(10, v), 0, NONE, 1, NONE);
        bounds(BUSY, BAD, (s, v) -> s.first(10, v), 0, 0, 1, 2);
    }

    static void promise12NoneOfNoThirdsFolds() {
        leaves(NEW, NONE, s -> s.first(1, 0), s -> s.first(100, 1));
    }

    static void promise12NoneIfNoneFolds() {
        for (int n : new int[] {1, 2, 99, 100}) {
            ShapeBetween s = triangles(new int[] {1, 1}, new int[] {9, 1}, new int[] {1, 9});
            due(s.first(n, 0), NONE);
            due(s.first(n, 1), NONE);
        }
    }

    static void promise12TheLeastTickComesAheadOfTheLeastThird() {
        ShapeBetween s = triangles(new int[] {1, 1}, new int[] {1, -1}, new int[] {1, -3});
        due(s.first(4, 0), 1);
        due(s.first(4, 1), 2);
        due(s.first(100, 0), 25);
        due(s.first(100, 1), 2);
    }

    static void promise12OfSeveralAtOneTickTheLeastThird() {
        ShapeBetween s = triangles(new int[] {1, 1}, new int[] {1, -1}, new int[] {1, -3});
        due(s.first(1, 0), 1);
        due(s.first(1, 1), 1);
        ShapeBetween both = triangles(new int[] {1, 0}, new int[] {9, 0});
        due(both.first(100, 0), 100);
        due(both.first(100, 1), 0);
    }

    static void promise12TheFirstAndTheLastTickCount() {
        ShapeBetween last = triangles(new int[] {1, 1}, new int[] {5, 0});
        ShapeBetween first = triangles(new int[] {1, -3}, new int[] {0, 5});
        for (int n : new int[] {1, 100}) {
            due(last.first(n, 0), n);
            due(last.first(n, 1), 1);
            due(first.first(n, 0), 0);
            due(first.first(n, 1), 1);
        }
    }

    static void promise12TheLastOfTwentyFourIsLookedAt() {
        ShapeBetween s = new ShapeBetween();
        for (int m = 0; m < 16; m++) {
            s.mark(m, m * m, m, m * m);
        }
        for (int m = 1; m < 15; m++) {
            s.third(0, m, m + 1);
        }
        for (int m = 2; m < 11; m++) {
            s.third(1, m, m + 1);
        }
        due(s.first(100, 0), NONE);
        due(s.third(15, 14, 13), 23);
        due(s.first(100, 0), 0);
        due(s.first(100, 1), 23);
        due(s.first(1, 1), 23);
    }

    // ---- 13: sides

    static void promise13ManyIs1To24() {
        bounds(NEW, BAD, (s, v) -> s.sides(v), 1, 0, 24, 0);
        bounds(BUSY, BAD, (s, v) -> s.sides(v), 1, 8, 24, 0);
        bounds(BRIMFUL, BAD, (s, v) -> s.sides(v), 1, 8, 24, 0);
    }

    static void promise13MarksWithoutThirdsHaveNoSides() {
        ShapeBetween s = new ShapeBetween();
        lowerHalf(s);
        for (int many = 1; many <= 24; many++) {
            due(s.sides(many), 0);
        }
        s.third(0, 1, 2);
        due(s.sides(1), 3);
        due(s.sides(2), 0);
    }

    static void promise13JustSoMany() {
        leaves(BUSY, 2, s -> s.sides(2));
        leaves(BUSY, 0, s -> s.sides(3));
        leaves(BRIMFUL, 32, s -> s.sides(2));
        leaves(BRIMFUL, 0, s -> s.sides(3));
    }

    /** One side of as many THIRDS as there are other MARKS, and the first and last MARK at its ends. */
    static void promise13ASideOfFourteenThirds() {
        ShapeBetween s = new ShapeBetween();
        for (int m = 0; m < 16; m++) {
            s.mark(m, m * m, m, m * m);
        }
        for (int m = 1; m < 15; m++) {
            due(s.sides(m - 1), m == 1 ? BAD : m == 2 ? 3 : 1);
            s.third(m % 2 == 0 ? 0 : 15, m, m % 2 == 0 ? 15 : 0);
        }
        due(s.sides(13), 0);
        due(s.sides(14), 1);
        due(s.sides(15), 0);
        due(s.sides(1), 28);
    }

    static void promise13GreatNumbersAreBadOfAFullObjectToo() {
        leaves(BRIMFUL, BAD, s -> s.sides(25), s -> s.sides(MAX), s -> s.sides(0), s -> s.sides(MIN));
    }
}
