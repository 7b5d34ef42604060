/** Promises 14 to 20 at their boundaries: KEYS, places between, and what is seen there. */
public final class BetweenBoundaryTest extends Boundary {
    public static void main(String[] args) {
        run(BetweenBoundaryTest.class);
    }

    /** One THIRD of MARKS 0, 1, 2, told as x0, y0, x1, y1 each. */
    private static ShapeBetween one(int[] a, int[] b, int[] c) {
        ShapeBetween s = marked(a, b, c);
        s.third(0, 1, 2);
        return s;
    }

    private static int[] still(int x, int y) {
        return new int[] {x, y, x, y};
    }

    private static ShapeBetween keyed(int... timesAndShares) {
        ShapeBetween s = new ShapeBetween();
        for (int i = 0; i < timesAndShares.length; i += 2) {
            due(s.key(timesAndShares[i], timesAndShares[i + 1]), i / 2 + 1);
        }
        return s;
    }

    // ---- 14: key

    static void promise14TimesAre0To1000() {
        bounds(NEW, BAD, (s, v) -> s.key(v, 500), 0, 1, 1000, 1);
        bounds(BUSY, BAD, (s, v) -> s.key(v, 960), 0, STATE, 1000, 4);
    }

    static void promise14SharesAre0To1000() {
        bounds(NEW, BAD, (s, v) -> s.key(500, v), 0, 1, 1000, 1);
        bounds(BUSY, BAD, (s, v) -> s.key(950, v), 0, STATE, 1000, 4);
    }

    static void promise14BadComesAheadOfStateAndFull() {
        bounds(BRIMFUL, BAD, (s, v) -> s.key(v, 1000), 0, STATE, 1000, FULL);
        bounds(BRIMFUL, BAD, (s, v) -> s.key(1000, v), 0, STATE, 1000, FULL);
    }

    static void promise14TheFirstMayBeAny() {
        due(new ShapeBetween().key(0, 0), 1);
        due(new ShapeBetween().key(0, 1000), 1);
        due(new ShapeBetween().key(1000, 0), 1);
        due(new ShapeBetween().key(1000, 1000), 1);
    }

    static void promise14EachTimeIsAboveTheOneAhead() {
        leaves(BUSY, STATE, s -> s.key(900, 950), s -> s.key(899, 950), s -> s.key(900, 1000),
                s -> s.key(500, 960), s -> s.key(0, 1000));
        due(BUSY.make().key(901, 950), 4);
        ShapeBetween s = keyed(1000, 0);
        due(s.key(1000, 0), STATE);
        due(s.key(1000, 1000), STATE);
    }

    static void promise14NoShareIsBelowTheOneAhead() {
        leaves(BUSY, STATE, s -> s.key(901, 949), s -> s.key(1000, 0), s -> s.key(1000, 300));
        due(BUSY.make().key(1000, 950), 4);
        due(BUSY.make().key(1000, 951), 4);
        ShapeBetween s = keyed(0, 1000);
        due(s.key(1, 999), STATE);
        due(s.key(1, 1000), 2);
    }

    static void promise14SixAreFull() {
        ShapeBetween s = keyed(0, 0, 1, 0, 2, 0, 3, 1, 4, 1, 5, 1);
        due(s.key(6, 1), FULL);
        due(s.count(7), 6);
        leaves(BRIMFUL, FULL, w -> w.key(1000, 1000));
    }

    static void promise14StateComesAheadOfFull() {
        leaves(BRIMFUL, STATE, s -> s.key(999, 1000), s -> s.key(1000, 999), s -> s.key(0, 0));
    }

    static void promise14JustThatKeyIsNew() {
        changes(BUSY, 4, s -> s.key(950, 960), "count 7: 4", "eased 950: 960", "eased 999: 960",
                "eased 1000: 960");
    }

    // ---- 15: eased

    static void promise15TimesAre0To1000() {
        bounds(NEW, BAD, (s, v) -> s.eased(v), 0, 0, 1000, 1000);
        bounds(BUSY, BAD, (s, v) -> s.eased(v), 0, 50, 1000, 950);
        bounds(BRIMFUL, BAD, (s, v) -> s.eased(v), 0, 0, 1000, 1000);
    }

    static void promise15WithoutKeysItIsTheTime() {
        for (int time : new int[] {0, 1, 500, 999, 1000}) {
            leaves(NEW, time, s -> s.eased(time));
        }
    }

    static void promise15BeforeTheFirstKeyItsShare() {
        leaves(BUSY, 50, s -> s.eased(0), s -> s.eased(99), s -> s.eased(100), s -> s.eased(101));
        leaves(BUSY, 51, s -> s.eased(102));
    }

    static void promise15BehindTheLastKeyItsShare() {
        leaves(BUSY, 948, s -> s.eased(899));
        leaves(BUSY, 950, s -> s.eased(900), s -> s.eased(901), s -> s.eased(1000));
        leaves(BRIMFUL, 999, s -> s.eased(998));
        leaves(BRIMFUL, 1000, s -> s.eased(999), s -> s.eased(1000));
    }

    static void promise15AtAKeyBetweenItsShare() {
        leaves(BUSY, 199, s -> s.eased(399));
        leaves(BUSY, 200, s -> s.eased(400));
        leaves(BUSY, 201, s -> s.eased(401));
    }

    static void promise15OneKeyIsItsShareAlways() {
        ShapeBetween s = keyed(500, 7);
        for (int time : new int[] {0, 499, 500, 501, 1000}) {
            due(s.eased(time), 7);
        }
        due(keyed(0, 1000).eased(0), 1000);
        due(keyed(0, 1000).eased(1000), 1000);
        due(keyed(1000, 0).eased(1000), 0);
        due(keyed(1000, 0).eased(999), 0);
    }

    static void promise15BetweenTwoItIsCut() {
        int[] shares = {0, 0, 1, 2, 2};
        ShapeBetween s = keyed(10, 0, 13, 2);
        for (int time = 10; time <= 14; time++) {
            due(s.eased(time), shares[time - 10]);
        }
        ShapeBetween slow = keyed(0, 5, 1000, 6);
        due(slow.eased(999), 5);
        due(slow.eased(1000), 6);
    }

    static void promise15TwoNextToEachOther() {
        ShapeBetween s = keyed(500, 0, 501, 1000);
        due(s.eased(499), 0);
        due(s.eased(500), 0);
        due(s.eased(501), 1000);
        due(s.eased(502), 1000);
    }

    static void promise15TheWholeOfTimeAndShare() {
        ShapeBetween s = keyed(0, 0, 1000, 1000);
        for (int time : new int[] {0, 1, 499, 500, 999, 1000}) {
            due(s.eased(time), time);
        }
        ShapeBetween flat = keyed(0, 7, 1000, 7);
        due(flat.eased(0), 7);
        due(flat.eased(999), 7);
        due(flat.eased(1000), 7);
    }

    static void promise15EachOfSixKeysIsMet() {
        ShapeBetween s = keyed(0, 0, 10, 100, 20, 100, 30, 130, 40, 140, 50, 240);
        int[][] dueOf = {{0, 0}, {1, 10}, {9, 90}, {10, 100}, {11, 100}, {19, 100}, {20, 100}, {21, 103}, {29, 127},
            {30, 130}, {31, 131}, {39, 139}, {40, 140}, {41, 150}, {49, 230}, {50, 240}, {51, 240}, {1000, 240}};
        for (int[] of : dueOf) {
            due(s.eased(of[0]), of[1]);
        }
    }

    // ---- 16: unkey

    static void promise16NoneThereIs0() {
        leaves(NEW, 0, s -> s.unkey());
    }

    static void promise16JustTheKeysGo() {
        changesOnly(BUSY, 3, s -> s.unkey(), "count 7: 0", "eased ");
        changesOnly(BRIMFUL, 6, s -> s.unkey(), "count 7: 0", "eased ");
    }

    static void promise16AfterwardsItIsAsAtFirst() {
        ShapeBetween s = BRIMFUL.make();
        due(s.unkey(), 6);
        due(s.unkey(), 0);
        due(s.count(7), 0);
        due(s.eased(150), 150);
        due(s.key(0, 0), 1);
        due(s.eased(150), 0);
        due(s.unkey(), 1);
        for (int k = 0; k < 6; k++) {
            due(s.key(k, 5), k + 1);
        }
        due(s.key(6, 5), FULL);
    }

    // ---- 17: in

    static void promise17PlacesAre0To1000() {
        bounds(NEW, BAD, (s, v) -> s.in(v, 0, 0, 1), 0, NONE, 1000, NONE);
        bounds(BUSY, BAD, (s, v) -> s.in(v, 0, 0, 1), 0, 0, 1000, 0);
        bounds(BUSY, BAD, (s, v) -> s.in(0, v, 0, 1), 0, 0, 1000, 0);
    }

    static void promise17TicksAreOf1To100() {
        bounds(BUSY, BAD, (s, v) -> s.in(5, 5, 0, v), 1, 0, 100, 0);
        bounds(BUSY, BAD, (s, v) -> s.in(5, 5, v, v), 1, 0, 100, 0);
    }

    static void promise17TicksAre0ToN() {
        bounds(BUSY, BAD, (s, v) -> s.in(5, 5, v, 1), 0, 0, 1, 0);
        bounds(BUSY, BAD, (s, v) -> s.in(5, 5, v, 100), 0, 0, 100, 0);
    }

    static void promise17CornersAndSidesAreIn() {
        int[][] in = {{100, 100}, {200, 100}, {100, 200}, {150, 100}, {100, 150}, {150, 150}, {199, 101}, {101, 199}};
        int[][] out = {{99, 100}, {100, 99}, {99, 150}, {150, 99}, {151, 150}, {150, 151}, {201, 100}, {200, 99},
            {200, 101}, {100, 201}, {99, 200}, {101, 200}, {0, 0}, {1000, 1000}};
        ShapeBetween s = one(still(100, 100), still(200, 100), still(100, 200));
        for (int n : new int[] {1, 100}) {
            for (int[] place : in) {
                due(s.in(place[0], place[1], n, n), 0);
            }
            for (int[] place : out) {
                due(s.in(place[0], place[1], n, n), NONE);
            }
        }
    }

    /** The least AREA that is UPRIGHT, 1, and the places next to it, where one of the SHARES is -1. */
    static void promise17AnAreaOf1IsUprightAndAShareBelow0IsOut() {
        ShapeBetween s = one(still(10, 10), still(11, 10), still(10, 11));
        due(s.told(0, 3), 1);
        due(s.in(10, 10, 0, 1), 0);
        due(s.in(11, 10, 0, 1), 0);
        due(s.in(10, 11, 1, 1), 0);
        due(s.in(11, 11, 0, 1), NONE);
        due(s.in(9, 10, 0, 1), NONE);
        due(s.in(10, 9, 1, 1), NONE);
    }

    /** A THIRD that goes by one to the right: at the TICKS between its sides run between whole places. */
    static void promise17SidesBetweenWholePlaces() {
        ShapeBetween s = one(new int[] {100, 100, 101, 100}, new int[] {200, 100, 201, 100},
                new int[] {100, 200, 101, 200});
        int[][] ticks = {{1, 2}, {1, 100}, {99, 100}};
        for (int[] t : ticks) {
            due(s.in(100, 150, t[0], t[1]), NONE);
            due(s.in(101, 150, t[0], t[1]), 0);
            due(s.in(150, 150, t[0], t[1]), 0);
            due(s.in(151, 150, t[0], t[1]), NONE);
        }
        due(s.in(100, 150, 0, 100), 0);
        due(s.in(151, 150, 0, 100), NONE);
        due(s.in(100, 150, 100, 100), NONE);
        due(s.in(151, 150, 100, 100), 0);
    }

    static void promise17NothingIsInAFlatThird() {
        ShapeBetween line = one(still(10, 10), still(20, 20), still(30, 30));
        due(line.in(10, 10, 0, 1), NONE);
        due(line.in(15, 15, 0, 1), NONE);
        due(line.in(20, 20, 1, 1), NONE);
        ShapeBetween point = one(still(5, 5), still(5, 5), still(5, 5));
        due(point.in(5, 5, 0, 1), NONE);
        due(point.in(5, 5, 50, 100), NONE);
    }

    static void promise17NothingIsInATurnedThird() {
        ShapeBetween s = one(still(100, 100), still(100, 200), still(200, 100));
        due(s.in(120, 120, 0, 1), NONE);
        due(s.in(100, 100, 0, 1), NONE);
        due(s.in(150, 150, 1, 1), NONE);
    }

    static void promise17UprightAtThatTickIsEnough() {
        ShapeBetween s = one(still(0, 50), still(100, 50), new int[] {0, 0, 0, 100});
        due(s.in(0, 50, 0, 100), NONE);
        due(s.in(0, 50, 50, 100), NONE);
        due(s.in(0, 50, 51, 100), 0);
        due(s.in(0, 50, 100, 100), 0);
        due(s.in(0, 51, 51, 100), 0);
        due(s.in(0, 52, 51, 100), NONE);
    }

    static void promise17OfSeveralTheLeast() {
        ShapeBetween s = covered();
        due(s.in(500, 500, 0, 1), 0);
        due(s.in(1000, 0, 0, 1), 0);
        due(s.in(501, 500, 0, 1), 1);
        due(BUSY.make().in(150, 150, 0, 1), 0);
        ShapeBetween over = marked(still(0, 0), still(0, 100), still(100, 0), still(90, 90));
        over.third(0, 1, 2);
        over.third(0, 2, 3);
        over.third(0, 3, 1);
        due(over.in(10, 10, 0, 1), 1);
        due(over.in(0, 100, 0, 1), 2);
    }

    static void promise17TheLastOfTwentyFourIsLookedAt() {
        ShapeBetween s = new ShapeBetween();
        for (int m = 0; m < 16; m++) {
            s.mark(m, m * m, m, m * m);
        }
        for (int t = 0; t < 23; t++) {
            s.third(t < 12 ? 0 : 1, 2 + t % 12, 3 + t % 12);
        }
        s.move(15, 0, 1000, 1000);
        s.move(15, 1, 1000, 1000);
        s.move(14, 0, 1000, 999);
        s.move(14, 1, 1000, 999);
        due(s.in(1000, 1000, 0, 1), NONE);
        due(s.third(0, 14, 15), 23);
        due(s.in(1000, 1000, 0, 1), 23);
        due(s.in(1000, 999, 100, 100), 23);
        due(s.in(1000, 998, 100, 100), NONE);
    }

    static void promise17ItChangesNothing() {
        leaves(BUSY, NONE, s -> s.in(1000, 1000, 0, 1));
        leaves(BUSY, 0, s -> s.in(1, 1, 7, 9));
    }

    // ---- 18: from

    static void promise18PlacesAre0To1000() {
        bounds(NEW, BAD, (s, v) -> s.from(v, 0, 0, 1, 0), 0, NONE, 1000, NONE);
        bounds(BUSY, BAD, (s, v) -> s.from(v, 0, 0, 1, 0), 0, 0, 1000, 1000);
        bounds(BUSY, BAD, (s, v) -> s.from(0, v, 0, 1, 3), 0, 0, 1000, 1000);
    }

    static void promise18TicksAreOf1To100() {
        bounds(BUSY, BAD, (s, v) -> s.from(5, 6, 0, v, 0), 1, 5, 100, 5);
        bounds(BUSY, BAD, (s, v) -> s.from(5, 6, v, v, 3), 1, 6, 100, 6);
    }

    static void promise18TicksAre0ToN() {
        bounds(BUSY, BAD, (s, v) -> s.from(5, 6, v, 1, 0), 0, 5, 1, 5);
        bounds(BUSY, BAD, (s, v) -> s.from(5, 6, v, 100, 1), 0, 6, 100, 6);
    }

    static void promise18WhatIs0To3() {
        bounds(NEW, BAD, (s, v) -> s.from(5, 6, 0, 1, v), 0, NONE, 3, NONE);
        bounds(BUSY, BAD, (s, v) -> s.from(5, 6, 0, 1, v), 0, 5, 3, 6);
        ShapeBetween s = one(new int[] {0, 0, 500, 600}, new int[] {100, 0, 600, 600}, new int[] {0, 100, 500, 700});
        due(s.from(30, 40, 0, 1, 0), 30);
        due(s.from(30, 40, 0, 1, 1), 40);
        due(s.from(30, 40, 0, 1, 2), 530);
        due(s.from(30, 40, 0, 1, 3), 640);
    }

    static void promise18BadComesAheadOfNone() {
        leaves(BUSY, BAD, s -> s.from(1000, 1000, 0, 1, 4), s -> s.from(1000, 1000, 2, 1, 0),
                s -> s.from(1000, 1001, 0, 1, 0), s -> s.from(MAX, MAX, MAX, MAX, MAX),
                s -> s.from(MIN, MIN, MIN, MIN, MIN));
    }

    static void promise18NoneIfItIsInNoThird() {
        leaves(BUSY, NONE, s -> s.from(501, 500, 0, 1, 0), s -> s.from(1000, 1000, 1, 1, 3));
        ShapeBetween flat = one(still(10, 10), still(20, 20), still(30, 30));
        ShapeBetween turned = one(still(100, 100), still(100, 200), still(200, 100));
        for (int what = 0; what < 4; what++) {
            due(flat.from(20, 20, 0, 1, what), NONE);
            due(turned.from(120, 120, 0, 1, what), NONE);
        }
    }

    static void promise18ItIsCut() {
        ShapeBetween s = one(still(0, 0), new int[] {3, 0, 10, 0}, new int[] {0, 3, 0, 10});
        int[] atFirst = {0, 3, 6, 10};
        for (int x = 0; x < 4; x++) {
            due(s.from(x, 0, 0, 1, 2), atFirst[x]);
            due(s.from(0, x, 0, 1, 3), atFirst[x]);
            due(s.from(x, 0, 0, 1, 0), x);
        }
        due(s.from(1, 1, 0, 1, 2), 3);
        due(s.from(4, 0, 0, 1, 2), NONE);
        int[] before = {0, 0, 0, 1, 1, 2, 2};
        int[] after = {0, 1, 3, 4, 6, 7, 9};
        for (int x = 0; x < 7; x++) {
            due(s.from(x, 0, 1, 2, 0), before[x]);
            due(s.from(x, 0, 1, 2, 2), after[x]);
            due(s.from(0, x, 1, 2, 1), before[x]);
            due(s.from(0, x, 1, 2, 3), after[x]);
        }
        due(s.from(7, 0, 1, 2, 0), NONE);
    }

    static void promise18CornersAreFromTheirMarks() {
        ShapeBetween s = one(new int[] {10, 20, 30, 40}, new int[] {110, 20, 333, 50}, new int[] {10, 120, 35, 444});
        int[][] corners = {{10, 20, 30, 40}, {110, 20, 333, 50}, {10, 120, 35, 444}};
        for (int[] c : corners) {
            for (int what = 0; what < 4; what++) {
                due(s.from(c[0], c[1], 0, 7, what), c[what]);
                due(s.from(c[2], c[3], 7, 7, what), c[what]);
            }
        }
    }

    static void promise18AnAreaOf1Divides() {
        ShapeBetween s = one(new int[] {10, 10, 500, 600}, new int[] {11, 10, 700, 600}, new int[] {10, 11, 500, 800});
        due(s.told(0, 3), 1);
        due(s.from(11, 10, 0, 1, 2), 700);
        due(s.from(10, 11, 0, 1, 3), 800);
        due(s.from(10, 10, 0, 1, 2), 500);
        due(s.from(11, 11, 0, 1, 2), NONE);
    }

    static void promise18GreatSharesDoNotWrapAround() {
        ShapeBetween s = covered();
        int[][] places = {{1000, 0}, {0, 1000}, {1000, 1000}, {999, 999}, {500, 500}, {501, 500}, {0, 0}, {333, 667}};
        for (int[] p : places) {
            for (int k : new int[] {0, 37, 100}) {
                due(s.from(p[0], p[1], k, 100, 0), p[0]);
                due(s.from(p[0], p[1], k, 100, 1), p[1]);
                due(s.from(p[0], p[1], k, 100, 2), p[0]);
                due(s.from(p[0], p[1], k, 100, 3), p[1]);
            }
        }
    }

    static void promise18ByTheLeastThirdItIsIn() {
        ShapeBetween s = marked(still(0, 0), new int[] {100, 0, 200, 0}, new int[] {0, 100, 0, 200},
                still(50, 0), still(0, 50));
        s.third(0, 3, 4);
        s.third(0, 1, 2);
        due(s.from(25, 25, 0, 1, 2), 25);
        due(s.from(26, 25, 0, 1, 2), 52);
        due(s.from(26, 25, 0, 1, 3), 50);
    }

    // ---- 19: picture

    static void promise19PicturesAre0And1() {
        bounds(BUSY, BAD, (s, v) -> s.picture(v, 2, 0, 1, 1), 0, 1, 1, 1);
        bounds(NEW, BAD, (s, v) -> s.picture(v, 2, 0, 1, 1), 0, NULL, 1, NULL);
    }

    static void promise19SheetsAre0To7() {
        bounds(BUSY, BAD, (s, v) -> s.picture(0, v, 0, 1, 1), 0, 1, 7, NULL);
        bounds(BRIMFUL, BAD, (s, v) -> s.picture(0, v, 0, 1, 1), 0, 1, 7, PLACE);
    }

    static void promise19CellsAre1To12EachWay() {
        bounds(BUSY, BAD, (s, v) -> s.picture(0, 2, 0, v, 1), 1, 1, 12, PLACE);
        bounds(BUSY, BAD, (s, v) -> s.picture(0, 2, 0, 1, v), 1, 1, 12, PLACE);
        bounds(BUSY, BAD, (s, v) -> s.picture(0, 5, 0, v, v), 1, NULL, 12, NULL);
        ShapeBetween s = new ShapeBetween();
        s.sheet(0, INTS, 144);
        due(s.picture(0, 0, 0, 12, 1), 1);
        due(s.picture(0, 0, 0, 1, 12), 1);
        due(s.picture(0, 0, 0, 12, 12), 1);
        due(s.picture(0, 0, 0, 12, 13), BAD);
        due(s.picture(0, 0, 0, 13, 12), BAD);
        due(s.picture(0, 0, 0, 13, 1), BAD);
        due(s.picture(0, 0, 0, 1, 13), BAD);
        due(s.picture(0, 0, 0, 144, 1), BAD);
    }

    static void promise19BadComesAheadOfFindings() {
        leaves(BUSY, BAD, s -> s.picture(2, 5, 0, 1, 1), s -> s.picture(0, 8, 0, 1, 1),
                s -> s.picture(0, 5, 0, 0, 1), s -> s.picture(0, 5, -1, 1, 13), s -> s.picture(-1, 2, 99, 1, 1),
                s -> s.picture(0, 2, -1, 13, 1), s -> s.picture(MAX, MAX, MAX, MAX, MAX),
                s -> s.picture(MIN, MIN, MIN, MIN, MIN));
    }

    static void promise19AMissingSheetIsNull() {
        finds(BUSY, NULL, s -> s.picture(0, 5, 0, 1, 1), s -> s.picture(1, 7, 0, 12, 12));
    }

    static void promise19NullComesAheadOfPlace() {
        finds(BUSY, NULL, s -> s.picture(0, 5, -1, 1, 1), s -> s.picture(0, 5, MAX, 1, 1),
                s -> s.picture(1, 5, MIN, 12, 12));
    }

    static void promise19AllCellsAreItemsOfTheSheet() {
        finds(BUSY, PLACE, s -> s.picture(0, 2, -1, 1, 1), s -> s.picture(0, 2, 8, 1, 1),
                s -> s.picture(0, 2, 3, 3, 2), s -> s.picture(1, 2, 0, 3, 3), s -> s.picture(0, 3, 0, 1, 1),
                s -> s.picture(0, 2, MIN, 1, 1), s -> s.picture(0, 2, MAX, 1, 1));
        due(BUSY.make().picture(0, 2, 0, 1, 1), 1);
        due(BUSY.make().picture(0, 2, 7, 1, 1), 1);
        due(BUSY.make().picture(0, 2, 2, 3, 2), 1);
        due(BUSY.make().picture(0, 2, 0, 4, 2), 1);
        ShapeBetween s = new ShapeBetween();
        s.sheet(0, INTS, 143);
        due(s.picture(0, 0, 0, 12, 12), PLACE);
        due(s.picture(0, 0, 0, 11, 12), 1);
        s.sheet(0, INTS, 144);
        due(s.picture(0, 0, 0, 12, 12), 1);
        due(s.picture(0, 0, 1, 12, 12), PLACE);
    }

    static void promise19PlaceAndCellsDoNotWrapAround() {
        finds(BUSY, PLACE, s -> s.picture(0, 2, MAX, 12, 12), s -> s.picture(0, 2, MAX - 143, 12, 12),
                s -> s.picture(0, 2, MIN, 12, 12), s -> s.picture(0, 2, -144, 12, 12), s -> s.picture(0, 2, -1, 2, 1));
    }

    static void promise19PlaceComesAheadOfTheNumbers() {
        finds(BUSY, PLACE, s -> s.picture(0, 4, 0, 5, 1), s -> s.picture(0, 1, 3, 2, 2));
    }

    static void promise19NumbersAre0To255() {
        leaves(BUSY, BAD, s -> s.picture(0, 4, 0, 1, 1), s -> s.picture(0, 4, 0, 4, 1),
                s -> s.picture(1, 4, 0, 2, 2), s -> s.picture(0, 1, 0, 3, 1), s -> s.picture(0, 1, 1, 2, 1));
        ShapeBetween s = new ShapeBetween();
        for (int bad : new int[] {MIN, -1, 256, MAX}) {
            fill(s, 0, INTS, bad, 0, 255, bad);
            due(s.picture(0, 0, 0, 1, 1), BAD);
            due(s.picture(0, 0, 0, 3, 1), BAD);
            due(s.picture(0, 0, 1, 1, 3), BAD);
            due(s.picture(0, 0, 3, 1, 1), BAD);
            due(s.picture(0, 0, 1, 2, 1), 1);
        }
        fill(s, 0, BYTES, 0, 127, 128, 0);
        due(s.picture(0, 0, 0, 2, 1), 1);
        due(s.picture(0, 0, 1, 2, 1), BAD);
        fill(s, 0, SHORTS, 256, 255, 0, -1);
        due(s.picture(0, 0, 1, 2, 1), 1);
        due(s.picture(0, 0, 1, 3, 1), BAD);
        due(s.picture(0, 0, 0, 2, 1), BAD);
        fill(s, 0, INTS, 65536, 255, -65536, -255);
        due(s.picture(0, 0, 0, 2, 1), BAD);
        due(s.picture(0, 0, 1, 2, 1), BAD);
        due(s.picture(0, 0, 3, 1, 1), BAD);
    }

    static void promise19TheLastOf144NumbersIsLookedAt() {
        ShapeBetween s = new ShapeBetween();
        s.sheet(0, INTS, 144);
        s.set(0, 143, 256);
        due(s.picture(0, 0, 0, 12, 12), BAD);
        due(s.picture(0, 0, 0, 12, 11), 1);
        s.set(0, 143, 255);
        due(s.picture(0, 0, 0, 12, 12), 1);
        s.set(0, 0, -1);
        due(s.picture(0, 0, 0, 12, 12), BAD);
    }

    static void promise19ThatPictureAloneIsTold() {
        changesOnly(BUSY, 1, s -> s.picture(0, 4, 1, 3, 1), "status: 0", "picture 0 at");
        changesOnly(BUSY, 1, s -> s.picture(1, 4, 1, 3, 1), "status: 0", "picture 1 at");
        ShapeBetween s = covered();
        fill(s, 0, INTS, 9, 0, 255, 9);
        s.picture(0, 0, 1, 2, 1);
        s.picture(1, 0, 0, 1, 1);
        due(s.seen(0, 0, 0, 1), 0);
        due(s.seen(1000, 1000, 0, 1), 255);
        due(s.seen(0, 0, 1, 1), 9);
    }

    static void promise19ASmallerOneComesInPlaceOfAGreater() {
        ShapeBetween s = covered();
        s.sheet(0, INTS, 144);
        for (int i = 0; i < 144; i++) {
            s.set(0, i, i);
        }
        s.picture(1, 0, 0, 12, 12);
        due(s.picture(0, 0, 0, 12, 12), 1);
        due(s.seen(1000, 1000, 0, 1), 143);
        due(s.picture(0, 0, 5, 1, 1), 1);
        due(s.seen(1000, 1000, 0, 1), 5);
        due(s.seen(1000, 1000, 1, 1), 143);
    }

    static void promise19WhatBecomesOfTheSheetIsNoMatter() {
        changes(BUSY, 99, s -> s.set(2, 0, 99), "status: 0", "sheet 2 item 0: 99");
        changes(BUSY, -1, s -> s.set(2, 5, -1), "status: 0", "sheet 2 item 5: " + BAD);
        changesOnly(BUSY, 8, s -> s.drop(2), "status: 0", "count 0: 4", "sheet 2 ");
        changesOnly(BUSY, 1, s -> s.sheet(2, BYTES, 1), "status: 0", "sheet 2 ");
    }

    // ---- 20: seen

    static void promise20PlacesAre0To1000() {
        bounds(BUSY, BAD, (s, v) -> s.seen(v, 0, 0, 1), 0, 10, 1000, 30);
        bounds(BUSY, BAD, (s, v) -> s.seen(0, v, 0, 1), 0, 10, 1000, 40);
    }

    static void promise20TicksAreOf1To100() {
        bounds(BUSY, BAD, (s, v) -> s.seen(0, 0, 0, v), 1, 10, 100, 10);
        bounds(BUSY, BAD, (s, v) -> s.seen(0, 0, v, v), 1, 1, 100, 1);
    }

    static void promise20TicksAre0ToN() {
        bounds(BUSY, BAD, (s, v) -> s.seen(0, 0, v, 1), 0, 10, 1, 1);
        bounds(BUSY, BAD, (s, v) -> s.seen(0, 0, v, 100), 0, 10, 100, 1);
    }

    static void promise20BadComesAheadOfState() {
        bounds(NEW, BAD, (s, v) -> s.seen(v, 0, 0, 1), 0, STATE, 1000, STATE);
        bounds(NEW, BAD, (s, v) -> s.seen(0, v, 0, 1), 0, STATE, 1000, STATE);
        bounds(NEW, BAD, (s, v) -> s.seen(0, 0, v, 1), 0, STATE, 1, STATE);
        bounds(NEW, BAD, (s, v) -> s.seen(0, 0, 0, v), 1, STATE, 100, STATE);
    }

    static void promise20BothPicturesMustBeTold() {
        for (int told = 0; told < 2; told++) {
            ShapeBetween s = covered();
            fill(s, 0, INTS, 7);
            due(s.seen(0, 0, 0, 1), STATE);
            s.picture(told, 0, 0, 1, 1);
            due(s.seen(0, 0, 0, 1), STATE);
            due(s.seen(0, 0, 1, 1), STATE);
            due(s.picture(1 - told, 0, 1, 1, 1), PLACE);
            due(s.seen(0, 0, 0, 1), STATE);
            s.picture(1 - told, 0, 0, 1, 1);
            due(s.seen(0, 0, 0, 1), 7);
            due(s.seen(0, 0, 1, 1), 7);
        }
    }

    static void promise20StateComesAheadOfNone() {
        ShapeBetween s = one(still(0, 0), still(10, 0), still(0, 10));
        fill(s, 0, INTS, 7);
        s.picture(0, 0, 0, 1, 1);
        due(s.in(11, 0, 0, 1), NONE);
        due(s.seen(11, 0, 0, 1), STATE);
        s.picture(1, 0, 0, 1, 1);
        due(s.seen(11, 0, 0, 1), NONE);
        due(s.seen(10, 0, 0, 1), 7);
    }

    static void promise20NoneIfItIsInNoThird() {
        leaves(BUSY, NONE, s -> s.seen(501, 500, 0, 1), s -> s.seen(1000, 1000, 1, 1));
        leaves(BUSY, 20, s -> s.seen(500, 500, 0, 1));
        ShapeBetween s = new ShapeBetween();
        fill(s, 0, INTS, 7);
        s.picture(0, 0, 0, 1, 1);
        s.picture(1, 0, 0, 1, 1);
        due(s.seen(0, 0, 0, 1), NONE);
    }

    static void promise20ItIsCut() {
        int[][] dueOf = {{0, 1, 10}, {1, 1, 1}, {1, 2, 5}, {1, 3, 7}, {2, 3, 4}, {1, 100, 9}, {99, 100, 1},
            {98, 100, 1}, {88, 100, 2}, {89, 100, 1}, {0, 100, 10}, {100, 100, 1}};
        for (int[] of : dueOf) {
            due(BUSY.make().seen(0, 0, of[0], of[1]), of[2]);
        }
    }

    static void promise20TheLeastAndTheGreatestNumber() {
        for (int number : new int[] {0, 255}) {
            ShapeBetween s = covered();
            fill(s, 0, INTS, number);
            s.picture(0, 0, 0, 1, 1);
            s.picture(1, 0, 0, 1, 1);
            for (int k = 0; k <= 100; k++) {
                due(s.seen(1000, 1000, k, 100), number);
            }
        }
    }

    /** From column c on x times w is 1001 times c or more. */
    static void promise20CellsBeginWhereTheyAreTold() {
        for (int many = 1; many <= 12; many++) {
            ShapeBetween s = covered();
            s.sheet(0, BYTES, 12);
            for (int i = 0; i < 12; i++) {
                s.set(0, i, i + 1);
            }
            s.picture(0, 0, 0, many, 1);
            s.picture(1, 0, 0, 1, many);
            due(s.seen(0, 1000, 0, 1), 1);
            due(s.seen(1000, 0, 0, 1), many);
            due(s.seen(1000, 0, 1, 1), 1);
            due(s.seen(0, 1000, 1, 1), many);
            for (int cell = 1; cell < many; cell++) {
                int begin = (1001 * cell + many - 1) / many;
                due(s.seen(begin, 0, 0, 1), cell + 1);
                due(s.seen(begin - 1, 0, 0, 1), cell);
                due(s.seen(0, begin, 1, 1), cell + 1);
                due(s.seen(0, begin - 1, 1, 1), cell);
            }
        }
    }

    static void promise20CellsStandRowByRow() {
        ShapeBetween s = covered();
        s.sheet(0, INTS, 144);
        for (int i = 0; i < 144; i++) {
            s.set(0, i, i);
        }
        s.picture(0, 0, 0, 12, 12);
        s.picture(1, 0, 0, 5, 3);
        due(s.seen(0, 0, 0, 1), 0);
        due(s.seen(1000, 0, 0, 1), 11);
        due(s.seen(0, 1000, 0, 1), 132);
        due(s.seen(1000, 1000, 0, 1), 143);
        due(s.seen(917, 84, 0, 1), 22);
        due(s.seen(918, 83, 0, 1), 11);
        due(s.seen(1000, 0, 1, 1), 4);
        due(s.seen(0, 1000, 1, 1), 10);
        due(s.seen(1000, 1000, 1, 1), 14);
        due(s.seen(201, 334, 1, 1), 6);
        due(s.seen(200, 333, 1, 1), 0);
    }

    /** The place comes from the left cell of picture 0 and from the right one of picture 1. */
    static void promise20EachPictureWhereItIsFrom() {
        ShapeBetween s = one(new int[] {0, 0, 600, 0}, new int[] {400, 0, 1000, 0}, new int[] {0, 400, 600, 400});
        fill(s, 0, INTS, 10, 20, 100, 200);
        s.picture(0, 0, 0, 2, 1);
        s.picture(1, 0, 2, 2, 1);
        due(s.seen(310, 10, 1, 2), (10 + 200) / 2);
        due(s.seen(300, 0, 1, 2), (10 + 200) / 2);
        due(s.seen(299, 0, 1, 2), NONE);
        due(s.seen(700, 0, 1, 2), (10 + 200) / 2);
        due(s.seen(701, 0, 1, 2), NONE);
    }
}
