/** Promises 1 to 5 at their boundaries: a new object, and the SHEETS. */
public final class SheetsBoundaryTest extends Boundary {
    public static void main(String[] args) {
        run(SheetsBoundaryTest.class);
    }

    // ---- 1: a new object

    static void promise01EverySheetIsMissing() {
        due(new ShapeBetween().count(0), 0);
        for (int sheet = 0; sheet < 8; sheet++) {
            int missing = sheet;
            finds(NEW, NULL, s -> s.drop(missing), s -> s.set(missing, 0, 0),
                    s -> s.copy(missing, 0, missing, 0, 0), s -> s.picture(0, missing, 0, 1, 1),
                    s -> s.pairs(missing, 1, missing, 1, 0), s -> s.pair(missing, 1, missing, 1, 0));
        }
    }

    static void promise01ThereIsNoMark() {
        leaves(NEW, 0, s -> s.count(1));
        leaves(NEW, BAD, s -> s.at(0, 0, 1, 0), s -> s.move(0, 0, 0, 0), s -> s.third(0, 1, 2));
        due(new ShapeBetween().mark(5, 5, 5, 5), 0);
    }

    static void promise01ThereIsNoThird() {
        leaves(NEW, 0, s -> s.count(2), s -> s.count(3), s -> s.count(4), s -> s.count(5), s -> s.count(6),
                s -> s.sides(1), s -> s.sides(24));
        leaves(NEW, BAD, s -> s.told(0, 0), s -> s.folds(0, 1), s -> s.kind(0), s -> s.as(0, 0),
                s -> s.ask(0, 0));
        leaves(NEW, NONE, s -> s.first(1, 0), s -> s.first(100, 1), s -> s.in(0, 0, 0, 1),
                s -> s.from(0, 0, 0, 1, 0));
    }

    static void promise01ThereIsNoKey() {
        leaves(NEW, 0, s -> s.count(7), s -> s.unkey(), s -> s.eased(0));
        leaves(NEW, 1, s -> s.eased(1));
        leaves(NEW, 999, s -> s.eased(999));
        leaves(NEW, 1000, s -> s.eased(1000));
    }

    static void promise01ThereIsNoPicture() {
        leaves(NEW, STATE, s -> s.seen(0, 0, 0, 1), s -> s.seen(1000, 1000, 100, 100));
    }

    static void promise01TheTraceIsEmptyAndNothingFound() {
        leaves(NEW, NONE, s -> s.trace(0), s -> s.trace(15));
        due(new ShapeBetween().status(), 0);
    }

    static void promise01ObjectsHaveNothingInCommon() {
        ShapeBetween first = new ShapeBetween();
        BUSY.make();
        BRIMFUL.make();
        for (int what = 0; what <= 7; what++) {
            due(first.count(what), 0);
        }
        due(first.seen(0, 0, 0, 1), STATE);
        due(first.trace(0), NONE);
        due(new ShapeBetween().count(0), 0);
        due(new ShapeBetween().unkey(), 0);
    }

    static void promise01The512thCallIsAnswered() {
        ShapeBetween s = new ShapeBetween();
        for (int call = 1; call <= 511; call++) {
            due(s.sheet(call % 8, INTS, call % 145), call % 145);
        }
        due(s.drop(511 % 8), 511 % 145);
    }

    // ---- 2: sheet

    static void promise02SheetsAre0To7() {
        bounds(NEW, BAD, (s, v) -> s.sheet(v, INTS, 3), 0, 3, 7, 3);
        bounds(BUSY, BAD, (s, v) -> s.sheet(v, INTS, 3), 0, 3, 7, 3);
        bounds(BRIMFUL, BAD, (s, v) -> s.sheet(v, INTS, 3), 0, 3, 7, 3);
        ShapeBetween s = new ShapeBetween();
        for (int sheet = 0; sheet < 8; sheet++) {
            due(s.sheet(sheet, sheet % 3, sheet), sheet);
            due(s.count(0), sheet + 1);
        }
    }

    static void promise02LanesAre0To2() {
        bounds(NEW, BAD, (s, v) -> s.sheet(0, v, 3), 0, 3, 2, 3);
        bounds(BUSY, BAD, (s, v) -> s.sheet(0, v, 3), 0, 3, 2, 3);
        int[] kept = {112, 4464, 70000};
        for (int lane = 0; lane < 3; lane++) {
            ShapeBetween s = new ShapeBetween();
            due(s.sheet(0, lane, 1), 1);
            due(s.set(0, 0, 70000), kept[lane]);
        }
    }

    static void promise02NoMoreThan144Items() {
        for (int lane = 0; lane < 3; lane++) {
            int of = lane;
            due(new ShapeBetween().sheet(0, lane, 143), 143);
            due(new ShapeBetween().sheet(0, lane, 144), 144);
            leaves(NEW, BAD, s -> s.sheet(0, of, 145), s -> s.sheet(0, of, MAX));
            leaves(BUSY, BAD, s -> s.sheet(0, of, 145), s -> s.sheet(7, of, MAX));
        }
    }

    static void promise02FewerThanNoneIsSize() {
        finds(NEW, SIZE, s -> s.sheet(0, BYTES, -1), s -> s.sheet(7, INTS, MIN));
        finds(BUSY, SIZE, s -> s.sheet(0, BYTES, -1), s -> s.sheet(1, INTS, MIN), s -> s.sheet(5, 1, -145));
        due(NEW.make().sheet(0, BYTES, 0), 0);
    }

    static void promise02BadComesAheadOfSize() {
        leaves(BUSY, BAD, s -> s.sheet(8, BYTES, -1), s -> s.sheet(-1, BYTES, -1), s -> s.sheet(0, 3, -1),
                s -> s.sheet(0, -1, MIN), s -> s.sheet(MAX, MAX, MIN), s -> s.sheet(MIN, MIN, MIN));
    }

    static void promise02NoItemsIsASheetToo() {
        changes(BUSY, 0, s -> s.sheet(5, SHORTS, 0), "status: 0", "count 0: 6", "sheet 5 lane: 1",
                "sheet 5 items: 0");
        finds(BUSY, PLACE, s -> s.set(3, 0, 0));
    }

    static void promise02ItemsAre0AtFirst() {
        for (int lane = 0; lane < 3; lane++) {
            ShapeBetween s = new ShapeBetween();
            s.sheet(0, lane, 144);
            due(sum(s, 0, lane, 144), 0);
        }
    }

    static void promise02ItComesInPlaceOfWhatIsThere() {
        changes(BUSY, 3, s -> s.sheet(1, BYTES, 3), "status: 0", "sheet 1 lane: 0", "sheet 1 item 0: 0",
                "sheet 1 item 1: 0", "sheet 1 item 2: 0", "sheet 1 item 3: gone", "sheet 1 item 4: gone",
                "sheet 1 item 5: gone", "sheet 1 items: 3");
        changes(BUSY, 4, s -> s.sheet(0, BYTES, 4), "status: 0", "sheet 0 item 0: 0", "sheet 0 item 1: 0",
                "sheet 0 item 2: 0", "sheet 0 item 3: 0");
        changes(BUSY, 0, s -> s.sheet(0, BYTES, 0), "status: 0", "sheet 0 item 0: gone",
                "sheet 0 item 1: gone", "sheet 0 item 2: gone", "sheet 0 item 3: gone", "sheet 0 items: 0");
        changes(BRIMFUL, 0, s -> s.sheet(7, BYTES, 0), "status: 0");
    }

    static void promise02OldItemsDoNotComeBack() {
        ShapeBetween s = new ShapeBetween();
        s.sheet(0, INTS, 144);
        for (int i = 0; i < 144; i++) {
            s.set(0, i, 1);
        }
        due(sum(s, 0, INTS, 144), 144);
        s.sheet(0, INTS, 2);
        s.sheet(0, INTS, 144);
        due(sum(s, 0, INTS, 144), 0);
        s.set(0, 143, 9);
        s.drop(0);
        s.sheet(0, SHORTS, 144);
        due(sum(s, 0, SHORTS, 144), 0);
    }

    static void promise02FullSheetsStandSideBySide() {
        ShapeBetween s = new ShapeBetween();
        for (int sheet = 0; sheet < 8; sheet++) {
            due(s.sheet(sheet, INTS, 144), 144);
        }
        for (int sheet = 0; sheet < 8; sheet++) {
            due(s.set(sheet, 0, 10 + sheet), 10 + sheet);
            due(s.set(sheet, 143, 20 + sheet), 20 + sheet);
        }
        for (int sheet = 0; sheet < 6; sheet++) {
            due(item(s, sheet, INTS, 0), 10 + sheet);
            due(item(s, sheet, INTS, 143), 20 + sheet);
            due(sum(s, sheet, INTS, 144), 30 + 2 * sheet);
        }
    }

    // ---- 3: set

    static void promise03SheetsAre0To7() {
        bounds(NEW, BAD, (s, v) -> s.set(v, 0, 1), 0, NULL, 7, NULL);
        bounds(BRIMFUL, BAD, (s, v) -> s.set(v, 0, 1), 0, 1, 7, PLACE);
    }

    static void promise03BadComesAheadOfPlace() {
        leaves(BUSY, BAD, s -> s.set(8, -1, 1), s -> s.set(-1, 200, 1), s -> s.set(MAX, MAX, MAX),
                s -> s.set(MIN, MIN, MIN));
    }

    static void promise03AMissingSheetIsNull() {
        finds(BUSY, NULL, s -> s.set(5, 0, 1), s -> s.set(7, 0, 1));
    }

    static void promise03NullComesAheadOfPlace() {
        finds(BUSY, NULL, s -> s.set(5, -1, 1), s -> s.set(5, 144, 1), s -> s.set(5, MIN, 1),
                s -> s.set(5, MAX, 1));
    }

    static void promise03PlacesAreThoseOfTheSheet() {
        finds(BUSY, PLACE, s -> s.set(0, -1, 9), s -> s.set(0, 4, 9), s -> s.set(0, MIN, 9),
                s -> s.set(0, MAX, 9), s -> s.set(1, 6, 9), s -> s.set(2, 8, 9), s -> s.set(2, 143, 9));
        due(BUSY.make().set(0, 0, 9), 9);
        due(BUSY.make().set(0, 3, 9), 9);
        ShapeBetween s = new ShapeBetween();
        s.sheet(0, INTS, 144);
        due(s.set(0, 143, 9), 9);
        due(s.set(0, 144, 9), PLACE);
    }

    static void promise03AnEmptySheetHasNoPlace() {
        finds(BUSY, PLACE, s -> s.set(3, 0, 9), s -> s.set(3, -1, 9));
    }

    static void promise03JustThatItemChanges() {
        changes(BUSY, 9, s -> s.set(0, 0, 9), "status: 0", "sheet 0 item 0: 9");
        changes(BUSY, 9, s -> s.set(0, 3, 9), "status: 0", "sheet 0 item 3: 9");
        changes(BUSY, 999, s -> s.set(1, 5, 999), "status: 0", "sheet 1 item 5: 999");
        changes(BUSY, 1000, s -> s.set(2, 7, 1000), "status: 0", "sheet 2 item 7: 1000");
    }

    static void promise03BytesHaveEightBits() {
        int[][] puts = {{0, 0}, {127, 127}, {128, -128}, {255, -1}, {256, 0}, {-1, -1}, {-128, -128}, {-129, 127},
            {-256, 0}, {MAX, -1}, {MIN, 0}};
        keeps(BYTES, puts);
    }

    static void promise03ShortsHaveSixteenBits() {
        int[][] puts = {{127, 127}, {128, 128}, {-129, -129}, {32767, 32767}, {32768, -32768}, {65535, -1}, {65536, 0},
            {-1, -1}, {-32768, -32768}, {-32769, 32767}, {MAX, -1}, {MIN, 0}};
        keeps(SHORTS, puts);
    }

    static void promise03IntsHaveAllBits() {
        int[][] puts = {{128, 128}, {32768, 32768}, {-32769, -32769}, {65536, 65536}, {-1, -1}, {MAX, MAX},
            {MIN, MIN}};
        keeps(INTS, puts);
    }

    private static void keeps(int lane, int[][] puts) {
        ShapeBetween s = new ShapeBetween();
        s.sheet(0, lane, 1);
        for (int[] put : puts) {
            due(s.set(0, 0, put[0]), put[1]);
        }
    }

    /** What stands there is what was answered, not what was given: the calls that read it see the lowest bits alone. */
    static void promise03WhatItIsThenIsRead() {
        ShapeBetween s = new ShapeBetween();
        fill(s, 0, BYTES, 255, 256 + 7, 512 + 100);
        due(item(s, 0, BYTES, 0), BAD);
        due(item(s, 0, BYTES, 1), 7);
        due(item(s, 0, BYTES, 2), 100);
        due(s.picture(0, 0, 0, 1, 1), BAD);
        due(s.picture(0, 0, 1, 1, 1), 1);
        fill(s, 1, SHORTS, 65536 + 1000, 32768, -65536 + 3);
        due(item(s, 1, SHORTS, 0), 1000);
        due(item(s, 1, SHORTS, 1), BAD);
        due(item(s, 1, SHORTS, 2), 3);
        fill(s, 2, INTS, 65536, MIN);
        due(item(s, 2, INTS, 0), BAD);
        due(item(s, 2, INTS, 1), BAD);
    }

    // ---- 4: copy

    static void promise04SheetsAre0To7() {
        bounds(NEW, BAD, (s, v) -> s.copy(v, 0, 0, 0, 0), 0, NULL, 7, NULL);
        bounds(NEW, BAD, (s, v) -> s.copy(0, 0, v, 0, 0), 0, NULL, 7, NULL);
        bounds(BRIMFUL, BAD, (s, v) -> s.copy(v, 0, 0, 0, 0), 0, 0, 7, 0);
        bounds(BRIMFUL, BAD, (s, v) -> s.copy(0, 0, v, 0, 0), 0, 0, 7, 0);
    }

    static void promise04BadComesAheadOfFindings() {
        leaves(BUSY, BAD, s -> s.copy(5, 0, 8, 0, 0), s -> s.copy(-1, 0, 5, 0, 0), s -> s.copy(8, 0, 1, 0, 0),
                s -> s.copy(0, -1, -1, -1, -1), s -> s.copy(MIN, MIN, MIN, MIN, MIN), s -> s.copy(MAX, MAX, MAX, MAX, MAX));
    }

    static void promise04AMissingSheetIsNull() {
        finds(BUSY, NULL, s -> s.copy(5, 0, 0, 0, 0), s -> s.copy(0, 0, 5, 0, 0), s -> s.copy(5, 0, 5, 0, 0),
                s -> s.copy(5, 0, 6, 0, 1), s -> s.copy(7, 0, 7, 0, 0));
    }

    static void promise04NullComesAheadOfStoreAndPlace() {
        finds(BUSY, NULL, s -> s.copy(5, -1, 0, 0, 0), s -> s.copy(0, 99, 5, 0, 1), s -> s.copy(1, 0, 5, -1, 0),
                s -> s.copy(5, 0, 1, 0, -1), s -> s.copy(5, MIN, 5, MAX, MIN));
    }

    static void promise04TwoLanesAreStore() {
        finds(BUSY, STORE, s -> s.copy(0, 0, 1, 0, 1), s -> s.copy(1, 0, 0, 0, 1), s -> s.copy(0, 0, 2, 0, 1),
                s -> s.copy(2, 0, 0, 0, 1), s -> s.copy(1, 0, 2, 0, 1), s -> s.copy(2, 0, 1, 0, 1));
    }

    static void promise04NoItemsOfTwoLanesAreStoreToo() {
        finds(BUSY, STORE, s -> s.copy(0, 0, 1, 0, 0), s -> s.copy(3, 0, 0, 0, 0), s -> s.copy(1, 6, 3, 0, 0));
    }

    static void promise04StoreComesAheadOfPlace() {
        finds(BUSY, STORE, s -> s.copy(0, -1, 1, 0, 1), s -> s.copy(0, 0, 1, -1, 1), s -> s.copy(0, 0, 1, 0, -1),
                s -> s.copy(0, 5, 1, 0, 0), s -> s.copy(0, MAX, 1, MIN, MAX));
    }

    static void promise04OneSheetIsOfOneLane() {
        clears(BUSY, 4, s -> s.copy(0, 0, 0, 0, 4));
        clears(BUSY, 6, s -> s.copy(1, 0, 1, 0, 6));
        clears(BUSY, 8, s -> s.copy(2, 0, 2, 0, 8));
    }

    static void promise04TheFirstPlaceIsOneOfTheSheet() {
        finds(BUSY, PLACE, s -> s.copy(4, -1, 2, 0, 1), s -> s.copy(4, 4, 2, 0, 1), s -> s.copy(4, 3, 2, 0, 2),
                s -> s.copy(4, 1, 2, 0, 4), s -> s.copy(4, MIN, 2, 0, 1), s -> s.copy(4, MAX, 2, 0, 1));
        due(BUSY.make().copy(4, 0, 2, 0, 1), 1);
        due(BUSY.make().copy(4, 3, 2, 0, 1), 1);
        due(BUSY.make().copy(4, 2, 2, 0, 2), 2);
        due(BUSY.make().copy(4, 0, 2, 0, 4), 4);
    }

    static void promise04TheSecondPlaceIsOneOfTheSheet() {
        finds(BUSY, PLACE, s -> s.copy(2, 0, 4, -1, 1), s -> s.copy(2, 0, 4, 4, 1), s -> s.copy(2, 0, 4, 3, 2),
                s -> s.copy(2, 0, 4, 1, 4), s -> s.copy(2, 0, 4, MIN, 1), s -> s.copy(2, 0, 4, MAX, 1));
        due(BUSY.make().copy(2, 0, 4, 0, 1), 1);
        due(BUSY.make().copy(2, 0, 4, 3, 1), 1);
        due(BUSY.make().copy(2, 0, 4, 2, 2), 2);
        due(BUSY.make().copy(2, 0, 4, 0, 4), 4);
    }

    static void promise04FewerThanNoneIsPlace() {
        finds(BUSY, PLACE, s -> s.copy(2, 0, 4, 0, -1), s -> s.copy(2, 3, 4, 3, -1), s -> s.copy(2, 8, 4, 4, -1),
                s -> s.copy(2, 0, 4, 0, MIN), s -> s.copy(2, 0, 2, 0, -1), s -> s.copy(3, 0, 3, 0, -1));
    }

    static void promise04MoreThanThereAreIsPlace() {
        finds(BUSY, PLACE, s -> s.copy(4, 0, 2, 0, 5), s -> s.copy(2, 0, 4, 0, 5), s -> s.copy(2, 0, 2, 0, 9),
                s -> s.copy(2, 0, 4, 0, MAX), s -> s.copy(3, 0, 2, 0, 1), s -> s.copy(2, 0, 3, 0, 1));
    }

    static void promise04PlaceAndNumberDoNotWrapAround() {
        finds(BUSY, PLACE, s -> s.copy(2, 1, 4, 0, MAX), s -> s.copy(2, 0, 4, 1, MAX),
                s -> s.copy(2, MAX, 4, 0, MAX), s -> s.copy(2, MAX, 4, MAX, 2), s -> s.copy(2, MAX - 1, 4, 0, 3),
                s -> s.copy(2, 0, 4, MAX - 1, 3), s -> s.copy(2, MIN, 4, MIN, MIN), s -> s.copy(2, MIN, 4, 0, MAX),
                s -> s.copy(2, 0, 4, 0, MIN + 1));
    }

    static void promise04NoneMayBeCopiedAtTheVeryEnd() {
        clears(BUSY, 0, s -> s.copy(2, 8, 4, 4, 0), s -> s.copy(2, 0, 4, 4, 0), s -> s.copy(2, 8, 4, 0, 0),
                s -> s.copy(3, 0, 3, 0, 0), s -> s.copy(3, 0, 2, 8, 0), s -> s.copy(2, 8, 3, 0, 0));
        finds(BUSY, PLACE, s -> s.copy(2, 9, 4, 0, 0), s -> s.copy(2, 0, 4, 5, 0), s -> s.copy(3, 1, 3, 0, 0),
                s -> s.copy(3, 0, 3, 1, 0), s -> s.copy(2, -1, 4, 0, 0), s -> s.copy(2, 0, 4, -1, 0),
                s -> s.copy(2, MAX, 4, 0, 0), s -> s.copy(2, 0, 4, MIN, 0));
    }

    static void promise04JustThoseItemsComeOver() {
        changes(BUSY, 2, s -> s.copy(2, 6, 4, 2, 2), "status: 0", "sheet 4 item 2: 70", "sheet 4 item 3: 80");
        changes(BUSY, 1, s -> s.copy(4, 3, 2, 0, 1), "status: 0", "sheet 2 item 0: 255");
        changes(BUSY, 4, s -> s.copy(4, 0, 2, 4, 4), "status: 0", "sheet 2 item 4: 1000", "sheet 2 item 5: 0",
                "sheet 2 item 6: 5", "sheet 2 item 7: 255");
    }

    static void promise04ItemsComeAsTheyWereAhead() {
        changes(BUSY, 7, s -> s.copy(2, 0, 2, 1, 7), "status: 0", "sheet 2 item 1: 10", "sheet 2 item 2: 20",
                "sheet 2 item 3: 30", "sheet 2 item 4: 40", "sheet 2 item 5: 50", "sheet 2 item 6: 60",
                "sheet 2 item 7: 70");
        changes(BUSY, 7, s -> s.copy(2, 1, 2, 0, 7), "status: 0", "sheet 2 item 0: 20", "sheet 2 item 1: 30",
                "sheet 2 item 2: 40", "sheet 2 item 3: 50", "sheet 2 item 4: 60", "sheet 2 item 5: 70",
                "sheet 2 item 6: 80");
        changes(BUSY, 3, s -> s.copy(0, 0, 0, 1, 3), "status: 0", "sheet 0 item 1: 1", "sheet 0 item 2: 2",
                "sheet 0 item 3: 3");
        changes(BUSY, 4, s -> s.copy(1, 2, 1, 0, 4), "status: 0", "sheet 1 item 0: 300", "sheet 1 item 1: 400",
                "sheet 1 item 2: 500", "sheet 1 item 3: 600");
    }

    static void promise04AFullSheetIsCopiedWhole() {
        for (int lane = 0; lane < 3; lane++) {
            ShapeBetween s = new ShapeBetween();
            s.sheet(0, lane, 144);
            s.sheet(1, lane, 144);
            for (int i = 0; i < 144; i++) {
                s.set(0, i, i % 100);
            }
            due(s.copy(0, 0, 1, 0, 145), PLACE);
            due(s.copy(0, 0, 1, 1, 144), PLACE);
            due(s.copy(0, 1, 1, 0, 144), PLACE);
            due(s.copy(0, 0, 1, 0, 144), 144);
            due(item(s, 1, lane, 0), 0);
            due(item(s, 1, lane, 99), 99);
            due(item(s, 1, lane, 143), 43);
            due(sum(s, 1, lane, 144), 4950 + 946);
            due(sum(s, 0, lane, 144), 4950 + 946);
        }
    }

    // ---- 5: drop

    static void promise05SheetsAre0To7() {
        bounds(NEW, BAD, (s, v) -> s.drop(v), 0, NULL, 7, NULL);
        bounds(BRIMFUL, BAD, (s, v) -> s.drop(v), 0, 2, 7, 0);
    }

    static void promise05AMissingSheetIsNull() {
        finds(BUSY, NULL, s -> s.drop(5), s -> s.drop(6), s -> s.drop(7));
    }

    static void promise05ItTellsHowManyItemsThereWere() {
        int[] lengths = {0, 1, 143, 144};
        for (int n : lengths) {
            ShapeBetween s = new ShapeBetween();
            s.sheet(4, BYTES, n);
            due(s.drop(4), n);
            due(s.drop(4), NULL);
            due(s.count(0), 0);
        }
    }

    static void promise05JustThatSheetIsMissing() {
        changes(BUSY, 4, s -> s.drop(0), "status: 0", "count 0: 4", "sheet 0 lane: " + NONE,
                "sheet 0 item 0: gone", "sheet 0 item 1: gone", "sheet 0 item 2: gone", "sheet 0 item 3: gone",
                "sheet 0 items: " + NULL);
        changes(BUSY, 0, s -> s.drop(3), "status: 0", "count 0: 4", "sheet 3 lane: " + NONE,
                "sheet 3 items: " + NULL);
    }

    static void promise05ItIsMissingToEveryCall() {
        ShapeBetween s = BUSY.make();
        s.drop(2);
        due(s.set(2, 0, 1), NULL);
        due(s.copy(2, 0, 4, 0, 0), NULL);
        due(s.copy(4, 0, 2, 0, 0), NULL);
        due(s.picture(0, 2, 0, 1, 1), NULL);
        due(s.pairs(2, 1, 4, 1, 0), NULL);
        due(s.pairs(4, 1, 2, 1, 0), NULL);
        due(s.pair(2, 1, 4, 1, 0), NULL);
        due(s.pair(4, 1, 2, 1, 0), NULL);
        due(s.drop(2), NULL);
        due(s.sheet(2, SHORTS, 5), 5);
        due(s.drop(2), 5);
    }
}
