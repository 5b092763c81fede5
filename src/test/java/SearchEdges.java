/** The boundary cases of promises 8, 9 and 11: start, order, run. */
final class SearchEdges {
    private static final int INVALID = Calls.INVALID;
    private static final int IMPOSSIBLE = Calls.IMPOSSIBLE;
    private static final int NOTHING = Calls.NOTHING;

    private SearchEdges() {
    }

    // ---- 8: start

    static void promise8PlaceAtItsEnds(Calls c) {
        c.variables(3, 2);
        c.start(50, -50, 50, 2, 1);
        c.placeIs(50, -50, 50, 4);
        c.start(-50, 50, -50, 2, 1);
        c.placeIs(-50, 50, -50, 4);
    }

    static void promise8PlaceBeyondItsEnds(Calls c) {
        c.variables(3, 2);
        c.start(51, 0, 0, 0, INVALID);
        c.start(-51, 0, 0, 0, INVALID);
        c.start(0, 51, 0, 0, INVALID);
        c.start(0, -51, 0, 0, INVALID);
        c.start(0, 0, 51, 0, INVALID);
        c.start(0, 0, -51, 0, INVALID);
        c.placeIs(0, 0, 0, 4);
    }

    static void promise8SizeZero(Calls c) {
        c.start(0, 0, 0, 0, 1);
        c.searchOf(3, 1);
    }

    static void promise8SizesBetween(Calls c) {
        c.start(0, 0, 0, 1, 1);
        c.searchOf(3, 2);
        c.start(0, 0, 0, 2, 1);
        c.searchOf(3, 4);
        c.start(0, 0, 0, 3, 1);
        c.searchOf(3, 8);
    }

    static void promise8SizeFour(Calls c) {
        c.start(0, 0, 0, 4, 1);
        c.searchOf(3, 16);
    }

    static void promise8SizeBelowZero(Calls c) {
        c.start(0, 0, 0, -1, INVALID);
        c.searchOf(3, 4);
    }

    static void promise8SizeAboveFour(Calls c) {
        c.start(0, 0, 0, 5, INVALID);
        c.start(0, 0, 0, 32, INVALID);
        c.start(0, 0, 0, 36, INVALID);
        c.searchOf(3, 4);
    }

    static void promise8WildNumbers(Calls c) {
        c.variables(3, 2);
        for (int wild : Calls.WILD) {
            c.start(wild, 0, 0, 0, INVALID);
            c.start(0, wild, 0, 0, INVALID);
            c.start(0, 0, wild, 0, INVALID);
            c.start(0, 0, 0, wild, INVALID);
        }
        c.placeIs(0, 0, 0, 4);
    }

    static void promise8NumbersOfVariablesThatThereAreNot(Calls c) {
        c.start(0, 0, 1, 0, INVALID);
        c.start(0, 0, -1, 0, INVALID);
        c.variables(1, 2);
        c.start(0, 1, 0, 0, INVALID);
        c.start(0, 0, 1, 0, INVALID);
        c.start(1, 0, 0, 0, 1);
    }

    static void promise8PlaceOnTheBounds(Calls c) {
        c.bound(0, -3, 4, 1);
        c.start(-3, 0, 0, 0, 1);
        c.start(4, 0, 0, 0, 1);
    }

    static void promise8EachVariableWithinItsOwnBounds(Calls c) {
        c.variables(3, 2);
        c.bound(0, 1, 3, 0);
        c.bound(1, 11, 13, 0);
        c.bound(2, 21, 23, 0);
        c.start(2, 12, 22, 0, 1);
        c.start(1, 11, 21, 0, 1);
        c.start(3, 13, 23, 0, 1);
        c.start(0, 12, 22, 0, 0);
        c.start(2, 10, 22, 0, 0);
        c.start(2, 12, 24, 0, 0);
    }

    static void promise8PlaceThatIsNotAllowed(Calls c) {
        c.bound(0, -3, 4, 1);
        c.start(-4, 0, 0, 0, 0);
        c.placeIs(-4, 0, 0, 1);
        c.start(5, 0, 0, 1, 0);
        c.placeIs(5, 0, 0, 2);
        c.count(5, 3);
    }

    static void promise8PlaceBeyondTheLastBound(Calls c) {
        c.variables(3, 2);
        c.bound(2, 0, 7, 1);
        c.start(0, 0, 7, 0, 1);
        c.start(0, 0, 8, 0, 0);
        c.start(0, 0, -1, 0, 0);
    }

    /** A search with three successes and one poll without. */
    private static void someSearch(Calls c) {
        c.term(1, 2, 0, 0, 1);
        c.start(7, 0, 0, 0, 1);
        c.run(4, 4);
        c.accountsAre(4, 3, 10, 1);
    }

    static void promise8AccountsAreZero(Calls c) {
        someSearch(c);
        c.start(7, 0, 0, 0, 1);
        c.searchOf(4, 0);
        c.searchOf(5, 0);
        c.searchOf(6, 0);
    }

    static void promise8NoSuccess(Calls c) {
        someSearch(c);
        c.start(7, 0, 0, 0, 1);
        c.searchOf(7, NOTHING);
    }

    static void promise8LatestSuccessDoesNotOrder(Calls c) {
        someSearch(c);
        c.order(1, 0, 0);
        c.trialOf(0, 0, 1);
        c.start(7, 0, 0, 0, 1);
        c.trialOf(0, 0, 0);
    }

    static void promise8NoBetterPlaces(Calls c) {
        someSearch(c);
        c.searchOf(8, 3);
        c.start(7, 0, 0, 0, 1);
        c.searchOf(8, 0);
        c.leftAt(0, 0, NOTHING);
    }

    static void promise8NoDirectionWasTaken(Calls c) {
        someSearch(c);
        c.directionOf(1, 3, 3);
        c.start(7, 0, 0, 0, 1);
        c.directionOf(1, 3, 0);
    }

    static void promise8NeitherTheFirstNorTheLastDirectionWasTaken(Calls c) {
        c.eightDirections();
        c.term(-1, 1, 0, 0, 1);
        c.poll(0);
        c.directionOf(0, 3, 1);
        c.term(2, 1, 0, 0, 2);
        c.term(-4, 0, 1, 0, 3);
        c.order(0, 1, 0);
        c.start(0, 0, 0, 0, 1);
        c.directionOf(0, 3, 0);
        c.poll(7);
        c.directionOf(7, 3, 1);
        c.start(0, 0, 0, 0, 1);
        c.directionOf(7, 3, 0);
    }

    static void promise8NoLatestPoll(Calls c) {
        c.start(0, 0, 0, 0, 1);
        c.poll(-1);
        c.searchOf(9, 1);
        c.start(0, 0, 0, 0, 1);
        c.searchOf(9, 0);
    }

    static void promise8ForgetsAlsoWhereThePlaceIsNotAllowed(Calls c) {
        someSearch(c);
        c.bound(0, 0, 9, 1);
        c.start(10, 0, 0, 0, 0);
        c.accountsAre(0, 0, 0, NOTHING);
        c.searchOf(8, 0);
        c.directionOf(1, 3, 0);
    }

    static void promise8TheRestStays(Calls c) {
        c.term(8, 1, 1, 0, 1);
        c.bound(1, -9, 9, 1);
        c.direction(3, 3, 0, 4);
        c.order(2, 1, 0);
        c.start(7, 0, 0, 0, 1);
        c.termIs(0, 8, 1, 1, 0);
        c.count(11, -9);
        c.count(21, 9);
        c.count(2, 5);
        c.count(3, 2);
        c.count(4, 1);
    }

    static void promise8RefusedChangesNothing(Calls c) {
        c.changesNothing(Calls::rich, d -> {
            d.start(51, 0, 0, 0, INVALID);
            d.start(0, 0, -51, 0, INVALID);
            d.start(0, 0, 0, 5, INVALID);
        });
    }

    // ---- 9: order

    static void promise9OrderAtItsEnds(Calls c) {
        c.order(2, 0, 0);
        c.count(3, 2);
        c.order(0, 0, 20);
        c.count(3, 0);
    }

    static void promise9OrderBeyondItsEnds(Calls c) {
        c.order(-1, 0, INVALID);
        c.order(3, 0, INVALID);
        c.count(3, 0);
    }

    static void promise9WayAtItsEnds(Calls c) {
        c.order(0, 1, 0);
        c.count(4, 1);
        c.order(0, 0, 1);
        c.count(4, 0);
    }

    static void promise9WayBeyondItsEnds(Calls c) {
        c.order(0, -1, INVALID);
        c.order(0, 2, INVALID);
        c.count(4, 0);
    }

    static void promise9WildNumbers(Calls c) {
        for (int wild : Calls.WILD) {
            c.order(wild, 0, INVALID);
            c.order(0, wild, INVALID);
        }
        c.count(3, 0);
        c.count(4, 0);
    }

    static void promise9AsTheyWere(Calls c) {
        c.order(2, 1, 0);
        c.order(1, 0, 21);
        c.order(1, 1, 10);
        c.order(0, 1, 11);
        c.order(0, 0, 1);
        c.order(0, 0, 0);
    }

    static void promise9RefusedChangesNothing(Calls c) {
        c.changesNothing(Calls::rich, d -> {
            d.order(3, 0, INVALID);
            d.order(0, 2, INVALID);
            d.order(-1, -1, INVALID);
        });
    }

    // ---- 11: run

    /** The function 2xx - 4xy + 2yy - 3x - 3y: from far below, each second poll has a success. */
    private static void longWay(Calls c) {
        c.term(2, 2, 0, 0, 1);
        c.term(-4, 1, 1, 0, 2);
        c.term(2, 0, 2, 0, 3);
        c.term(-3, 1, 0, 0, 4);
        c.term(-3, 0, 1, 0, 5);
        c.start(-50, -50, 0, 0, 1);
    }

    static void promise11ManyAtItsLeast(Calls c) {
        c.run(1, 1);
        c.searchOf(4, 1);
        c.placeIs(0, 0, 0, 2);
    }

    static void promise11ManyAtItsMost(Calls c) {
        longWay(c);
        c.run(60, 60);
        c.searchOf(4, 60);
        c.searchOf(9, 0);
    }

    static void promise11ManyBelowOne(Calls c) {
        c.run(0, INVALID);
        c.run(-1, INVALID);
        c.searchOf(4, 0);
    }

    static void promise11ManyAboveSixty(Calls c) {
        longWay(c);
        c.run(61, INVALID);
        c.searchOf(4, 0);
    }

    static void promise11WildNumbers(Calls c) {
        for (int wild : Calls.WILD) {
            c.run(wild, INVALID);
        }
        c.searchOf(4, 0);
    }

    static void promise11OnceAtLeast(Calls c) {
        c.start(0, 0, 0, 0, 1);
        c.poll(-1);
        c.searchOf(9, 1);
        c.run(60, 1);
        c.searchOf(4, 2);
        c.searchOf(6, 8);
    }

    static void promise11UntilSizeOneHasNoSuccess(Calls c) {
        c.run(60, 3);
        c.searchOf(3, 1);
        c.searchOf(9, 1);
    }

    static void promise11FailureAtTheSizeTwoGoesOn(Calls c) {
        c.start(0, 0, 0, 1, 1);
        c.run(60, 2);
        c.searchOf(9, 1);
    }

    static void promise11SuccessAtTheSizeOneGoesOn(Calls c) {
        c.term(1, 2, 0, 0, 1);
        c.start(1, 0, 0, 0, 1);
        c.run(60, 3);
        c.placeIs(0, 0, 0, 1);
        c.accountsAre(3, 1, 10, 1);
    }

    static void promise11AsManyAsItNeeds(Calls c) {
        c.run(3, 3);
        c.searchOf(9, 1);
    }

    static void promise11OneFewerThanItNeeds(Calls c) {
        c.run(2, 2);
        c.searchOf(3, 1);
        c.searchOf(9, 0);
    }

    static void promise11NoTrialIsAllowed(Calls c) {
        c.bound(0, 0, 0, 1);
        c.bound(1, 0, 0, 1);
        c.run(60, 3);
        c.accountsAre(3, 0, 0, NOTHING);
        c.searchOf(9, 1);
    }

    static void promise11IsOneChange(Calls c) {
        longWay(c);
        c.term(1, 0, 0, 0, 6);
        c.run(60, 60);
        c.undo(3);
        c.count(1, 6);
        c.placeIs(-50, -50, 0, 1);
        c.accountsAre(0, 0, 0, NOTHING);
        c.undo(2);
        c.count(1, 5);
    }

    static void promise11PlaceIsNotAllowed(Calls c) {
        c.bound(1, 1, 2, 0);
        c.run(1, IMPOSSIBLE);
        c.run(60, IMPOSSIBLE);
        c.searchOf(4, 0);
    }

    static void promise11NoDirection(Calls c) {
        c.noDirections();
        c.run(1, IMPOSSIBLE);
        c.run(60, IMPOSSIBLE);
        c.searchOf(4, 0);
    }

    static void promise11InvalidRatherThanNotPossible(Calls c) {
        c.noDirections();
        c.bound(1, 1, 2, 0);
        c.run(0, INVALID);
        c.run(61, INVALID);
    }

    static void promise11StaysWithinTheBounds(Calls c) {
        c.term(1, 1, 0, 0, 1);
        c.bound(0, -5, 50, 1);
        c.run(60, 7);
        c.placeIs(-5, 0, 0, 1);
        c.searchOf(9, 1);
    }

    static void promise11RefusedChangesNothing(Calls c) {
        c.changesNothing(Calls::rich, d -> {
            d.run(0, INVALID);
            d.run(61, INVALID);
        });
    }

    static void promise11NotPossibleChangesNothing(Calls c) {
        c.changesNothing(d -> {
            d.rich();
            d.bound(1, 50, 50, 0);
        }, d -> d.run(60, IMPOSSIBLE));
    }
}
