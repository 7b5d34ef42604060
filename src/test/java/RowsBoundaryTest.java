/** Promises 21 and 22 at their boundaries: two rows of POINTS, paired. */
public final class RowsBoundaryTest extends Boundary {
    public static void main(String[] args) {
        run(RowsBoundaryTest.class);
    }

    /** Row a in SHEET 0, row b in SHEET 1: the x of each POINT, y being 0. */
    private static ShapeBetween rows(int[] a, int[] b) {
        ShapeBetween s = new ShapeBetween();
        row(s, 0, a);
        row(s, 1, b);
        return s;
    }

    private static void row(ShapeBetween s, int sheet, int[] xs) {
        s.sheet(sheet, INTS, 2 * xs.length);
        for (int i = 0; i < xs.length; i++) {
            s.set(sheet, 2 * i, xs[i]);
        }
    }

    private static int[] xs(int... all) {
        return all;
    }

    private static int[] same(int many, int x) {
        int[] all = new int[many];
        java.util.Arrays.fill(all, x);
        return all;
    }

    /** All that is told of the PAIRING of two rows, and each of its pairs, POINT of a times 100 and that of b. */
    private static void paired(int[] a, int[] b, int cost, int splits, int joins, int... pairs) {
        ShapeBetween s = rows(a, b);
        due(s.pairs(0, a.length, 1, b.length, 0), cost);
        due(s.pairs(0, a.length, 1, b.length, 1), pairs.length);
        due(s.pairs(0, a.length, 1, b.length, 2), splits);
        due(s.pairs(0, a.length, 1, b.length, 3), joins);
        due(s.pair(0, a.length, 1, b.length, -1), NONE);
        for (int i = 0; i < pairs.length; i++) {
            due(s.pair(0, a.length, 1, b.length, i), pairs[i]);
        }
        due(s.pair(0, a.length, 1, b.length, pairs.length), NONE);
    }

    // ---- 21: pairs

    static void promise21SheetsAre0To7() {
        bounds(BUSY, BAD, (s, v) -> s.pairs(v, 1, 0, 1, 0), 0, 0, 7, NULL);
        bounds(BUSY, BAD, (s, v) -> s.pairs(0, 1, v, 1, 0), 0, 0, 7, NULL);
        bounds(BRIMFUL, BAD, (s, v) -> s.pairs(v, 1, 0, 1, 0), 0, 0, 7, PLACE);
        bounds(BRIMFUL, BAD, (s, v) -> s.pairs(0, 1, v, 1, 0), 0, 0, 7, PLACE);
    }

    static void promise21RowsHave1To30Points() {
        bounds(BUSY, BAD, (s, v) -> s.pairs(2, v, 0, 1, 0), 1, 27, 30, PLACE);
        bounds(BUSY, BAD, (s, v) -> s.pairs(0, 1, 2, v, 0), 1, 27, 30, PLACE);
        ShapeBetween s = new ShapeBetween();
        s.sheet(0, INTS, 144);
        due(s.pairs(0, 30, 0, 30, 1), 30);
        due(s.pairs(0, 30, 0, 1, 1), 30);
        due(s.pairs(0, 1, 0, 30, 1), 30);
        due(s.pairs(0, 31, 0, 30, 1), BAD);
        due(s.pairs(0, 30, 0, 31, 1), BAD);
        due(s.pairs(0, 72, 0, 1, 1), BAD);
        due(s.pairs(0, 0, 0, 1, 1), BAD);
        due(s.pairs(0, 1, 0, 0, 1), BAD);
    }

    static void promise21WhatIs0To3() {
        bounds(BUSY, BAD, (s, v) -> s.pairs(2, 1, 0, 1, v), 0, 27, 3, 0);
    }

    static void promise21BadComesAheadOfFindings() {
        leaves(BUSY, BAD, s -> s.pairs(5, 0, 2, 1, 0), s -> s.pairs(5, 1, 2, 31, 0),
                s -> s.pairs(5, 1, 2, 1, 4), s -> s.pairs(5, 1, 2, 1, -1), s -> s.pairs(5, 1, 8, 1, 0),
                s -> s.pairs(-1, 1, 5, 1, 0), s -> s.pairs(0, 3, 2, 1, 4), s -> s.pairs(0, 3, 2, 0, 0),
                s -> s.pairs(MAX, MAX, MAX, MAX, MAX), s -> s.pairs(MIN, MIN, MIN, MIN, MIN));
    }

    static void promise21AMissingSheetIsNull() {
        finds(BUSY, NULL, s -> s.pairs(5, 1, 2, 1, 0), s -> s.pairs(2, 1, 5, 1, 0),
                s -> s.pairs(5, 1, 5, 1, 0), s -> s.pairs(5, 30, 7, 30, 3));
    }

    static void promise21NullComesAheadOfPlace() {
        finds(BUSY, NULL, s -> s.pairs(0, 3, 5, 1, 0), s -> s.pairs(5, 1, 0, 3, 0),
                s -> s.pairs(3, 1, 5, 1, 0));
    }

    static void promise21RowsAreItemsOfTheirSheets() {
        finds(BUSY, PLACE, s -> s.pairs(0, 3, 2, 1, 0), s -> s.pairs(2, 1, 0, 3, 0),
                s -> s.pairs(2, 5, 2, 1, 0), s -> s.pairs(3, 1, 2, 1, 0), s -> s.pairs(2, 1, 3, 1, 0));
        due(BUSY.make().pairs(0, 2, 2, 4, 1), 4);
        for (int lane = 0; lane < 3; lane++) {
            ShapeBetween s = new ShapeBetween();
            s.sheet(0, lane, 59);
            s.sheet(1, lane, 60);
            due(s.pairs(0, 30, 1, 30, 0), PLACE);
            due(s.pairs(1, 30, 0, 30, 0), PLACE);
            due(s.pairs(0, 29, 1, 30, 0), 0);
            due(s.pairs(1, 30, 1, 30, 0), 0);
        }
    }

    static void promise21AnOddItemIsNoPoint() {
        ShapeBetween s = new ShapeBetween();
        s.sheet(0, INTS, 1);
        s.sheet(1, INTS, 3);
        due(s.pairs(0, 1, 1, 1, 0), PLACE);
        due(s.pairs(1, 1, 0, 1, 0), PLACE);
        due(s.pairs(1, 2, 1, 1, 0), PLACE);
        due(s.pairs(1, 1, 1, 1, 0), 0);
    }

    static void promise21PlaceComesAheadOfTheItems() {
        ShapeBetween s = new ShapeBetween();
        fill(s, 0, INTS, -1, 1001);
        fill(s, 1, INTS, 5, 5);
        due(s.pairs(0, 2, 1, 1, 0), PLACE);
        due(s.pairs(0, 1, 1, 2, 0), PLACE);
        due(s.pairs(1, 2, 0, 1, 0), PLACE);
        due(s.pairs(0, 1, 1, 1, 0), BAD);
        due(s.pairs(1, 1, 0, 1, 0), BAD);
    }

    static void promise21ItemsAre0To1000() {
        for (int bad : new int[] {MIN, -1, 1001, MAX}) {
            ShapeBetween s = new ShapeBetween();
            fill(s, 0, INTS, 0, 1000, 1000, 0);
            for (int i = 0; i < 4; i++) {
                fill(s, 1, INTS, 0, 1000, 1000, 0);
                due(s.pairs(1, 2, 0, 2, 0), 0);
                s.set(1, i, bad);
                due(s.pairs(1, 2, 0, 2, 0), BAD);
                due(s.pairs(0, 2, 1, 2, 0), BAD);
                due(s.pairs(1, 1, 0, 2, 1), i < 2 ? BAD : 2);
                due(s.pairs(0, 2, 1, 1, 1), i < 2 ? BAD : 2);
            }
        }
    }

    static void promise21ItemsOfEveryLaneAreTakenAsTheyAre() {
        int[][] bad = {{BYTES, -1}, {BYTES, -128}, {SHORTS, -1}, {SHORTS, -1000}, {SHORTS, -32768}, {SHORTS, 1001},
            {SHORTS, 32767}, {INTS, -1000}, {INTS, 65536}, {INTS, 65536 + 1000}, {INTS, -65536}, {INTS, 256 - 65536}};
        for (int[] b : bad) {
            ShapeBetween s = new ShapeBetween();
            fill(s, 0, b[0], 0, 0);
            fill(s, 1, INTS, 0, 0);
            due(s.pairs(0, 1, 1, 1, 0), 0);
            due(s.set(0, 1, b[1]), b[1]);
            due(s.pairs(0, 1, 1, 1, 0), BAD);
            due(s.pairs(1, 1, 0, 1, 0), BAD);
            due(s.pair(0, 1, 1, 1, 0), BAD);
            due(s.pair(1, 1, 0, 1, 0), BAD);
        }
        ShapeBetween s = new ShapeBetween();
        fill(s, 0, BYTES, 127, 0);
        fill(s, 1, SHORTS, 1000, 0);
        fill(s, 2, INTS, 0, 1000);
        due(s.pairs(0, 1, 1, 1, 0), 873);
        due(s.pairs(1, 1, 2, 1, 0), 2000);
        due(s.pairs(2, 1, 0, 1, 0), 1127);
    }

    static void promise21ABadItemLeavesEverything() {
        changes(BUSY, BAD, s -> badItem(s).pairs(2, 2, 0, 1, 0), "status: 1", "sheet 2 item 3: " + BAD);
        changes(BUSY, BAD, s -> badItem(s).pairs(0, 1, 2, 2, 3), "status: 1", "sheet 2 item 3: " + BAD);
        changes(BUSY, 27, s -> badItem(s).pairs(2, 1, 0, 1, 0), "status: 0", "sheet 2 item 3: " + BAD);
    }

    /** The last ITEM of the second POINT in SHEET 2 is too large, and status() is 1. */
    private static ShapeBetween badItem(ShapeBetween s) {
        due(s.set(2, 3, 1001), 1001);
        due(s.drop(5), NULL);
        return s;
    }

    static void promise21TheLastOfSixtyItemsIsLookedAt() {
        ShapeBetween s = new ShapeBetween();
        s.sheet(0, INTS, 62);
        s.sheet(1, INTS, 60);
        s.set(0, 60, -1);
        s.set(0, 61, 1001);
        due(s.pairs(0, 30, 1, 30, 0), 0);
        due(s.pairs(1, 30, 0, 30, 0), 0);
        s.set(0, 59, 1001);
        due(s.pairs(0, 30, 1, 30, 0), BAD);
        due(s.pairs(1, 30, 0, 30, 0), BAD);
        due(s.pairs(0, 29, 1, 30, 0), 0);
        s.set(0, 59, 1000);
        due(s.pairs(0, 30, 1, 30, 0), 1000);
    }

    static void promise21RowsMayBeOfTwoLanes() {
        ShapeBetween s = new ShapeBetween();
        fill(s, 0, BYTES, 100, 27);
        fill(s, 1, SHORTS, 1000, 0);
        fill(s, 2, INTS, 101, 29);
        due(s.pairs(0, 1, 1, 1, 0), 927);
        due(s.pairs(1, 1, 2, 1, 0), 928);
        due(s.pairs(2, 1, 0, 1, 0), 3);
    }

    static void promise21ItChangesNothingButStatus() {
        clears(BUSY, 27, s -> s.pairs(2, 1, 0, 1, 0));
        clears(BUSY, 0, s -> s.pairs(2, 4, 2, 4, 0), s -> s.pairs(0, 1, 0, 1, 3));
        clears(BUSY, 4, s -> s.pairs(0, 2, 2, 4, 1));
    }

    static void promise21TheFirstPairIsCounted() {
        ShapeBetween s = new ShapeBetween();
        fill(s, 0, INTS, 0, 1000, 5, 5);
        fill(s, 1, INTS, 1000, 0, 8, 9);
        due(s.pairs(0, 1, 1, 1, 0), 2000);
        due(s.pairs(0, 1, 1, 1, 1), 1);
        due(s.pairs(0, 1, 1, 1, 2), 0);
        due(s.pairs(0, 1, 1, 1, 3), 0);
        due(s.pairs(0, 2, 1, 2, 0), 2007);
    }

    static void promise21TheGreatestCosts() {
        int[] low = same(30, 0);
        int[] high = same(30, 1000);
        ShapeBetween s = rows(low, high);
        for (int i = 1; i < 60; i += 2) {
            s.set(1, i, 1000);
        }
        due(s.pairs(0, 30, 1, 30, 0), 60000);
        due(s.pairs(1, 30, 0, 30, 0), 60000);
        due(s.pairs(0, 30, 1, 1, 0), 60000);
        due(s.pairs(0, 1, 1, 30, 0), 60000);
        due(s.pairs(0, 30, 1, 30, 1), 30);
        due(s.pairs(0, 30, 1, 29, 0), 60000);
    }

    static void promise21OneMeetingIsNoSplitNorJoin() {
        paired(xs(0), xs(3), 3, 0, 0, 0);
        paired(xs(0, 10), xs(0, 10), 0, 0, 0, 0, 101);
        paired(same(3, 0), same(3, 0), 0, 0, 0, 0, 101, 202);
    }

    static void promise21TwoMeetingsAreASplit() {
        paired(xs(0, 0), xs(0), 0, 1, 0, 0, 100);
        paired(xs(0, 0, 10), xs(0, 10), 0, 1, 0, 0, 100, 201);
        paired(xs(0, 0, 10, 10), xs(0, 10), 0, 2, 0, 0, 100, 201, 301);
    }

    static void promise21ThreeMeetingsAreOneSplit() {
        paired(xs(0, 0, 0), xs(0), 0, 1, 0, 0, 100, 200);
        paired(xs(0, 10, 10, 10), xs(0, 10), 0, 1, 0, 0, 101, 201, 301);
    }

    static void promise21TwoMeetingsAreAJoin() {
        paired(xs(0), xs(0, 0), 0, 0, 1, 0, 1);
        paired(xs(0, 10), xs(0, 10, 10), 0, 0, 1, 0, 101, 102);
        paired(xs(0, 10), xs(0, 0, 10, 10), 0, 0, 2, 0, 1, 102, 103);
    }

    static void promise21ThreeMeetingsAreOneJoin() {
        paired(xs(0), xs(0, 0, 0), 0, 0, 1, 0, 1, 2);
        paired(xs(0, 10), xs(0, 0, 0, 10), 0, 0, 1, 0, 1, 2, 103);
    }

    static void promise21SplitsAndJoinsAtOnce() {
        paired(xs(0, 0, 10), xs(0, 10, 10), 0, 1, 1, 0, 100, 201, 202);
    }

    static void promise21RowsOfThirtyThatMeetTheMostPairs() {
        int[] a = same(30, 0);
        a[29] = 1000;
        int[] b = same(30, 1000);
        b[0] = 0;
        int[] pairs = new int[58];
        for (int i = 0; i < 58; i++) {
            pairs[i] = i < 29 ? 100 * i : 2900 + i - 28;
        }
        paired(a, b, 0, 1, 1, pairs);
    }

    // ---- 22: pair

    static void promise22SheetsAre0To7() {
        bounds(BUSY, BAD, (s, v) -> s.pair(v, 1, 0, 1, 0), 0, 0, 7, NULL);
        bounds(BUSY, BAD, (s, v) -> s.pair(0, 1, v, 1, 0), 0, 0, 7, NULL);
        bounds(BRIMFUL, BAD, (s, v) -> s.pair(v, 1, 0, 1, 0), 0, 0, 7, PLACE);
        bounds(BRIMFUL, BAD, (s, v) -> s.pair(0, 1, v, 1, 0), 0, 0, 7, PLACE);
    }

    static void promise22RowsHave1To30Points() {
        bounds(BUSY, BAD, (s, v) -> s.pair(2, v, 0, 1, 0), 1, 0, 30, PLACE);
        bounds(BUSY, BAD, (s, v) -> s.pair(0, 1, 2, v, 0), 1, 0, 30, PLACE);
        ShapeBetween s = new ShapeBetween();
        s.sheet(0, INTS, 144);
        due(s.pair(0, 30, 0, 30, 29), 2929);
        due(s.pair(0, 30, 0, 1, 29), 2900);
        due(s.pair(0, 1, 0, 30, 29), 29);
        due(s.pair(0, 31, 0, 30, 0), BAD);
        due(s.pair(0, 30, 0, 31, 0), BAD);
    }

    static void promise22BadComesAheadOfFindings() {
        leaves(BUSY, BAD, s -> s.pair(5, 0, 2, 1, 0), s -> s.pair(5, 1, 2, 31, 0), s -> s.pair(5, 1, 8, 1, 0),
                s -> s.pair(-1, 1, 5, 1, 0), s -> s.pair(0, 3, 2, 0, 0), s -> s.pair(MAX, MAX, MAX, MAX, MAX),
                s -> s.pair(MIN, MIN, MIN, MIN, MIN));
    }

    static void promise22AMissingSheetIsNull() {
        finds(NEW, NULL, s -> s.pair(0, 1, 0, 1, 0));
        finds(BUSY, NULL, s -> s.pair(5, 1, 2, 1, 0), s -> s.pair(2, 1, 5, 1, 0), s -> s.pair(5, 1, 5, 1, 0));
    }

    static void promise22NullComesAheadOfPlace() {
        finds(BUSY, NULL, s -> s.pair(0, 3, 5, 1, 0), s -> s.pair(5, 1, 0, 3, 0), s -> s.pair(3, 1, 5, 1, 0));
    }

    static void promise22RowsAreItemsOfTheirSheets() {
        finds(BUSY, PLACE, s -> s.pair(0, 3, 2, 1, 0), s -> s.pair(2, 1, 0, 3, 0), s -> s.pair(2, 5, 2, 1, 0),
                s -> s.pair(3, 1, 2, 1, 0), s -> s.pair(2, 1, 3, 1, 0));
        due(BUSY.make().pair(2, 4, 0, 2, 3), 301);
    }

    static void promise22ItemsAre0To1000() {
        ShapeBetween s = BUSY.make();
        for (int bad : new int[] {MIN, -1, 1001, MAX}) {
            s.set(2, 3, bad);
            s.drop(5);
            due(s.pair(2, 2, 0, 1, 0), BAD);
            due(s.pair(0, 1, 2, 2, 0), BAD);
            due(s.status(), 1);
            due(s.pair(2, 1, 0, 1, 0), 0);
            due(s.status(), 0);
        }
        for (int good : new int[] {0, 1000}) {
            s.set(2, 3, good);
            due(s.pair(2, 2, 0, 1, 1), 100);
        }
    }

    static void promise22ABadItemLeavesEverything() {
        changes(BUSY, BAD, s -> badItem(s).pair(2, 2, 0, 1, 0), "status: 1", "sheet 2 item 3: " + BAD);
        changes(BUSY, BAD, s -> badItem(s).pair(0, 1, 2, 2, -1), "status: 1", "sheet 2 item 3: " + BAD);
        changes(BUSY, 0, s -> badItem(s).pair(0, 1, 2, 1, 0), "status: 0", "sheet 2 item 3: " + BAD);
    }

    static void promise22RefusalsComeAheadOfNone() {
        ShapeBetween s = new ShapeBetween();
        fill(s, 0, INTS, 5, 1001);
        fill(s, 1, INTS, 5, 5);
        for (int i : new int[] {MIN, -1, 1, MAX}) {
            due(s.pair(0, 0, 1, 1, i), BAD);
            due(s.pair(2, 1, 1, 1, i), NULL);
            due(s.pair(1, 2, 1, 1, i), PLACE);
            due(s.pair(0, 1, 1, 1, i), BAD);
            due(s.pair(1, 1, 1, 1, i), NONE);
        }
    }

    static void promise22NoneBelow0AndBehindTheLast() {
        clears(BUSY, NONE, s -> s.pair(2, 4, 0, 2, -1), s -> s.pair(2, 4, 0, 2, 4), s -> s.pair(2, 4, 0, 2, MIN),
                s -> s.pair(2, 4, 0, 2, MAX));
        clears(BUSY, 0, s -> s.pair(2, 4, 0, 2, 0));
        clears(BUSY, 301, s -> s.pair(2, 4, 0, 2, 3));
    }

    static void promise22BothWentIfThatCanBe() {
        paired(xs(0, 0), xs(0, 0), 0, 0, 0, 0, 101);
        paired(xs(0, 7), xs(0, 0), 7, 0, 0, 0, 101);
        paired(xs(0, 0), xs(0, 7), 7, 0, 0, 0, 101);
        paired(same(4, 0), same(2, 0), 0, 1, 0, 0, 100, 200, 301);
        paired(same(2, 0), same(4, 0), 0, 0, 1, 0, 1, 2, 103);
    }

    static void promise22ElseAWentIfThatCanBe() {
        paired(xs(10, 0, 10), xs(0, 10, 0), 20, 1, 1, 0, 1, 102, 202);
    }

    static void promise22ElseBWent() {
        paired(xs(0, 10), xs(0, 10, 10), 0, 0, 1, 0, 101, 102);
        paired(xs(0, 10, 20), xs(0, 10, 20, 20), 0, 0, 1, 0, 101, 202, 203);
    }

    static void promise22TheNextPairingForgetsTheLast() {
        ShapeBetween s = rows(xs(0, 10, 10), xs(0, 10));
        due(s.pair(0, 3, 1, 2, 2), 201);
        due(s.pair(0, 1, 1, 1, 0), 0);
        due(s.pair(0, 1, 1, 1, 1), NONE);
        due(s.pair(1, 2, 0, 3, 2), 102);
        due(s.pairs(0, 1, 1, 2, 0), 10);
        s.set(1, 2, 4);
        due(s.pairs(0, 1, 1, 2, 0), 4);
        due(s.pair(0, 3, 1, 2, 2), 201);
    }
}
