/** The boundary cases of promise 10: poll. */
final class PollEdges {
    private static final int IMPOSSIBLE = Calls.IMPOSSIBLE;
    private static final int NOTHING = Calls.NOTHING;

    private PollEdges() {
    }

    // ---- whether it can poll

    static void promise10PlaceIsNotAllowed(Calls c) {
        c.bound(0, 1, 50, 0);
        c.poll(IMPOSSIBLE);
        c.bound(0, -50, 50, 1);
        c.bound(1, -50, -1, 0);
        c.poll(IMPOSSIBLE);
        c.searchOf(4, 0);
    }

    static void promise10PlaceOnTheBounds(Calls c) {
        c.bound(0, 0, 50, 1);
        c.bound(1, -50, 0, 1);
        c.poll(-1);
        c.searchOf(4, 1);
    }

    static void promise10NoDirection(Calls c) {
        c.noDirections();
        c.poll(IMPOSSIBLE);
        c.searchOf(4, 0);
        c.searchOf(3, 4);
    }

    static void promise10OneDirection(Calls c) {
        c.term(1, 1, 0, 0, 1);
        c.onlyDirections(-1, 0, 0);
        c.poll(0);
        c.accountsAre(1, 1, 1, 0);
    }

    static void promise10EightDirections(Calls c) {
        c.term(1, 1, 0, 0, 1);
        c.term(-1, 0, 1, 0, 2);
        c.onlyDirections(1, 0, 0, 2, 0, 0, 3, 0, 0, 0, -1, 0, 0, -2, 0, 0, -3, 0, 1, -1, 0, -1, 1, 0);
        c.poll(7);
        c.accountsAre(1, 1, 8, 7);
        c.placeIs(-4, 4, 0, 8);
    }

    static void promise10NoTrialIsAllowed(Calls c) {
        c.bound(0, -3, 3, 1);
        c.bound(1, -3, 3, 1);
        c.poll(-1);
        c.accountsAre(1, 0, 0, NOTHING);
        c.searchOf(3, 2);
    }

    // ---- which trials are looked at

    static void promise10TrialOnTheLowerBound(Calls c) {
        c.term(1, 1, 0, 0, 1);
        c.bound(0, -4, 50, 1);
        c.poll(1);
        c.placeIs(-4, 0, 0, 8);
    }

    static void promise10TrialOnTheUpperBound(Calls c) {
        c.term(-1, 0, 1, 0, 1);
        c.bound(1, -50, 4, 1);
        c.poll(2);
        c.placeIs(0, 4, 0, 8);
    }

    static void promise10TrialBeyondTheLowerBound(Calls c) {
        c.term(1, 1, 0, 0, 1);
        c.bound(0, -3, 50, 1);
        c.poll(-1);
        c.searchOf(6, 3);
    }

    static void promise10TrialBeyondTheUpperBound(Calls c) {
        c.term(-1, 0, 1, 0, 1);
        c.bound(1, -50, 3, 1);
        c.poll(-1);
        c.searchOf(6, 3);
    }

    static void promise10TrialBeyondTheBoundOfTheThirdVariable(Calls c) {
        c.variables(3, 2);
        c.term(1, 0, 0, 1, 1);
        c.bound(2, -3, 3, 1);
        c.poll(-1);
        c.searchOf(6, 4);
        c.bound(2, -2, 3, 1);
        c.poll(5);
        c.placeIs(0, 0, -2, 4);
    }

    /** Sixteen times three beyond the widest bounds. */
    static void promise10TrialFarBeyondTheBounds(Calls c) {
        c.onlyDirections(3, 3, 0, -3, -3, 0);
        c.term(-99, 4, 0, 0, 1);
        c.start(50, 50, 0, 4, 1);
        c.poll(-1);
        c.searchOf(6, 1);
        c.start(-50, -50, 0, 4, 1);
        c.poll(-1);
        c.searchOf(6, 1);
    }

    static void promise10StopsAtTheFirstBetter(Calls c) {
        c.term(1, 0, 1, 0, 1);
        c.onlyDirections(1, 0, 0, 0, -1, 0, 0, -3, 0);
        c.poll(1);
        c.accountsAre(1, 1, 2, 1);
        c.placeIs(0, -4, 0, 8);
    }

    static void promise10LooksAtAll(Calls c) {
        c.term(1, 0, 1, 0, 1);
        c.onlyDirections(1, 0, 0, 0, -1, 0, 0, -3, 0, -1, 0, 0);
        c.order(0, 1, 0);
        c.poll(2);
        c.accountsAre(1, 1, 4, 2);
        c.placeIs(0, -12, 0, 8);
    }

    static void promise10LooksAtAllThatAreAllowed(Calls c) {
        c.term(1, 0, 1, 0, 1);
        c.order(0, 1, 0);
        c.bound(0, -50, 3, 1);
        c.poll(3);
        c.searchOf(6, 3);
    }

    static void promise10NoneIsBetterAndAllAreLookedAt(Calls c) {
        c.poll(-1);
        c.searchOf(6, 4);
        c.order(0, 1, 0);
        c.poll(-1);
        c.searchOf(6, 8);
    }

    // ---- what is better

    static void promise10EqualIsNotBetter(Calls c) {
        c.term(1, 2, 0, 0, 1);
        c.start(2, 0, 0, 2, 1);
        c.poll(-1);
        c.placeIs(2, 0, 0, 2);
    }

    static void promise10EqualIsNotBetterThoughAllAreLookedAt(Calls c) {
        c.term(1, 2, 0, 0, 1);
        c.order(0, 1, 0);
        c.start(2, 0, 0, 2, 1);
        c.poll(-1);
        c.placeIs(2, 0, 0, 2);
    }

    static void promise10LessByOneIsBetter(Calls c) {
        c.term(1, 1, 0, 0, 1);
        c.start(0, 0, 0, 0, 1);
        c.poll(1);
        c.placeIs(-1, 0, 0, 2);
    }

    /** The value at the place itself is that of all three numbers. */
    static void promise10BetterThanThePlaceOfThreeNumbers(Calls c) {
        c.variables(3, 2);
        c.term(1, 2, 0, 0, 1);
        c.term(10, 0, 2, 0, 2);
        c.term(3, 0, 0, 1, 3);
        c.start(0, 1, 20, 2, 1);
        c.poll(5);
        c.placeIs(0, 1, 16, 8);
        c.start(1, 0, -50, 0, 1);
        c.poll(1);
        c.poll(-1);
        c.placeIs(0, 0, -50, 1);
    }

    /** The values are beyond what an int holds: -6187500000 and those beside it. */
    static void promise10GreatValues(Calls c) {
        for (int i = 1; i <= 10; i++) {
            c.term(-99, 4, 0, 0, i);
        }
        c.start(49, 0, 0, 0, 1);
        c.poll(0);
        c.placeIs(50, 0, 0, 2);
        c.poll(-1);
        c.start(-49, 0, 0, 0, 1);
        c.poll(1);
        c.placeIs(-50, 0, 0, 2);
    }

    static void promise10LeastOfAllEqualFirstByNumber(Calls c) {
        c.term(-1, 2, 0, 0, 1);
        c.term(-1, 0, 2, 0, 2);
        c.order(0, 1, 0);
        c.poll(0);
        c.placeIs(4, 0, 0, 8);
    }

    static void promise10LeastOfAllEqualFirstByLatest(Calls c) {
        c.term(-1, 0, 1, 0, 1);
        c.poll(2);
        c.term(-1, 1, 0, 0, 2);
        c.order(1, 1, 0);
        c.poll(2);
        c.placeIs(0, 12, 0, 16);
    }

    static void promise10LeastOfAllEqualFirstBySimpler(Calls c) {
        c.term(-1, 3, 0, 0, 1);
        c.term(-16, 0, 1, 0, 2);
        c.order(2, 1, 0);
        c.trialsAre(2, 0, 1, 3);
        c.poll(2);
        c.accountsAre(1, 1, 4, 2);
    }

    // ---- in which order

    static void promise10OrderByLatestWithoutSuccess(Calls c) {
        c.order(1, 0, 0);
        c.term(1, 1, 0, 0, 1);
        c.term(1, 0, 1, 0, 2);
        c.poll(1);
        c.accountsAre(1, 1, 2, 1);
    }

    static void promise10OrderByLatestLooksThereFirst(Calls c) {
        c.order(1, 0, 0);
        c.term(1, 0, 1, 0, 1);
        c.poll(3);
        c.searchOf(6, 4);
        c.term(1, 1, 0, 0, 2);
        c.poll(3);
        c.searchOf(6, 5);
    }

    static void promise10OrderByLatestThenByNumbers(Calls c) {
        c.order(1, 0, 0);
        c.term(1, 0, 1, 0, 1);
        c.poll(3);
        c.dropTerm(0, 1);
        c.term(1, 1, 0, 0, 1);
        c.poll(1);
        c.searchOf(6, 4 + 3);
    }

    static void promise10OrderByLatestThatWasDropped(Calls c) {
        c.order(1, 0, 0);
        c.term(1, 0, 1, 0, 1);
        c.term(1, 1, 0, 0, 2);
        c.dropDirection(1, 3);
        c.poll(2);
        c.dropDirection(2, 2);
        c.direction(-1, 0, 0, 2);
        c.direction(0, -1, 0, 3);
        c.trialsAre(0, 1, 2, 3);
        c.poll(2);
        c.searchOf(6, 3 + 3);
    }

    /** The latest success's direction is dropped: the one before it does not take its place. */
    static void promise10OrderByLatestAlone(Calls c) {
        c.order(1, 0, 0);
        c.term(1, 0, 1, 0, 1);
        c.poll(3);
        c.dropTerm(0, 1);
        c.term(1, 1, 0, 0, 1);
        c.poll(1);
        c.dropDirection(1, 3);
        c.trialsAre(0, 1, 2);
    }

    static void promise10OrderByLatestThatIsNotAllowed(Calls c) {
        c.order(1, 0, 0);
        c.term(1, 0, 1, 0, 1);
        c.poll(3);
        c.bound(1, -4, 50, 1);
        c.trialsAre(0, 1, 2);
        c.poll(-1);
        c.searchOf(7, 3);
    }

    static void promise10OrderByLatestBehindAFailure(Calls c) {
        c.order(1, 0, 0);
        c.term(1, 0, 2, 0, 1);
        c.start(0, 4, 0, 2, 1);
        c.poll(3);
        c.poll(-1);
        c.trialsAre(3, 0, 1, 2);
    }

    static void promise10OrderBySimplerLeastFirst(Calls c) {
        c.term(3, 1, 0, 0, 1);
        c.term(-2, 0, 1, 0, 2);
        c.order(2, 0, 0);
        c.trialsAre(1, 2, 3, 0);
        c.poll(1);
        c.searchOf(6, 1);
    }

    static void promise10OrderBySimplerEqualByNumber(Calls c) {
        c.term(-1, 2, 0, 0, 1);
        c.term(-1, 0, 2, 0, 2);
        c.term(-1, 0, 3, 0, 3);
        c.order(2, 0, 0);
        c.trialsAre(0, 1, 2, 3);
        c.poll(0);
        c.searchOf(6, 1);
    }

    static void promise10OrderBySimplerOfPowersOfTwo(Calls c) {
        c.term(1, 2, 0, 0, 1);
        c.order(2, 0, 0);
        c.trialsAre(2, 3, 0, 1);
    }

    static void promise10OrderBySimplerWithoutPowersOfThree(Calls c) {
        c.term(-1, 0, 3, 0, 1);
        c.term(-1, 1, 2, 0, 2);
        c.order(2, 0, 0);
        c.trialsAre(0, 1, 2, 3);
    }

    static void promise10OrderBySimplerThatIsZero(Calls c) {
        c.term(1, 0, 3, 0, 1);
        c.order(2, 0, 0);
        c.poll(3);
        c.searchOf(6, 4);
    }

    // ---- what a success changes

    static void promise10SizeDoublesToSixteen(Calls c) {
        c.term(1, 1, 0, 0, 1);
        c.start(50, 0, 0, 0, 1);
        for (int size = 2; size <= 16; size *= 2) {
            c.poll(1);
            c.searchOf(3, size);
        }
    }

    static void promise10SizeNotAboveSixteen(Calls c) {
        c.term(1, 1, 0, 0, 1);
        c.start(50, 0, 0, 4, 1);
        c.poll(1);
        c.placeIs(34, 0, 0, 16);
        c.poll(1);
        c.placeIs(18, 0, 0, 16);
    }

    static void promise10SizeHalvesToOne(Calls c) {
        c.start(0, 0, 0, 4, 1);
        for (int size = 8; size >= 1; size /= 2) {
            c.poll(-1);
            c.searchOf(3, size);
            c.searchOf(9, 0);
        }
    }

    static void promise10SizeNotBelowOne(Calls c) {
        c.start(0, 0, 0, 0, 1);
        c.poll(-1);
        c.searchOf(3, 1);
        c.poll(-1);
        c.searchOf(3, 1);
    }

    static void promise10FailureLeavesThePlace(Calls c) {
        c.start(7, -7, 0, 3, 1);
        c.poll(-1);
        c.placeIs(7, -7, 0, 4);
        c.accountsAre(1, 0, 4, NOTHING);
        c.searchOf(8, 0);
        c.directionOf(0, 3, 0);
    }

    static void promise10FailureLeavesTheLatestSuccess(Calls c) {
        c.term(1, 2, 0, 0, 1);
        c.start(4, 0, 0, 2, 1);
        c.poll(1);
        c.poll(-1);
        c.searchOf(7, 1);
        c.searchOf(8, 1);
        c.directionOf(1, 3, 1);
    }

    static void promise10PlaceByAllNumbers(Calls c) {
        c.variables(3, 2);
        c.term(1, 0, 0, 1, 1);
        c.onlyDirections(2, -1, -3);
        c.start(-10, 10, 10, 2, 1);
        c.poll(0);
        c.placeIs(-2, 6, -2, 8);
        c.leftAt(0, 0, -10);
        c.leftAt(0, 1, 10);
        c.leftAt(0, 2, 10);
    }

    static void promise10IsOneChange(Calls c) {
        c.poll(-1);
        c.count(5, 1);
        c.term(1, 1, 0, 0, 1);
        c.poll(1);
        c.count(5, 3);
        c.undo(2);
        c.placeIs(0, 0, 0, 2);
        c.searchOf(4, 1);
    }

    static void promise10NotAllowedChangesNothing(Calls c) {
        c.changesNothing(d -> {
            d.rich();
            d.bound(1, 50, 50, 0);
        }, d -> d.poll(IMPOSSIBLE));
    }

    static void promise10NoDirectionChangesNothing(Calls c) {
        c.changesNothing(d -> {
            d.rich();
            d.noDirections();
        }, d -> d.poll(IMPOSSIBLE));
    }
}
