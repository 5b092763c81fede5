/** The boundary cases of promises 1 to 5: a new object, variables, terms, bounds. */
final class FunctionsEdges {
    private static final int INVALID = Calls.INVALID;
    private static final int IMPOSSIBLE = Calls.IMPOSSIBLE;
    private static final int LIMIT = Calls.LIMIT;
    private static final int NOTHING = Calls.NOTHING;

    private FunctionsEdges() {
    }

    // ---- 1: a new object

    static void promise1TwoVariables(Calls c) {
        c.count(0, 2);
        c.count(11, -50);
        c.count(12, INVALID);
    }

    static void promise1NoTerms(Calls c) {
        c.count(1, 0);
        c.termOf(0, 0, NOTHING);
        c.value(50, -50, 0, 0, 0);
        c.value(50, -50, 0, 1, 0);
    }

    static void promise1WidestBounds(Calls c) {
        c.count(10, -50);
        c.count(11, -50);
        c.count(20, 50);
        c.count(21, 50);
    }

    static void promise1FourDirectionsByVariables(Calls c) {
        c.count(2, 4);
        c.directionIs(0, 1, 0, 0);
        c.directionIs(1, -1, 0, 0);
        c.directionIs(2, 0, 1, 0);
        c.directionIs(3, 0, -1, 0);
        c.directionOf(4, 0, NOTHING);
    }

    static void promise1PlaceAndSize(Calls c) {
        c.placeIs(0, 0, 0, 4);
    }

    static void promise1NoPollsAndNoSuccess(Calls c) {
        c.accountsAre(0, 0, 0, NOTHING);
        c.searchOf(8, 0);
        c.searchOf(9, 0);
        c.leftAt(0, 0, NOTHING);
        c.directionOf(0, 3, 0);
    }

    static void promise1OrderAndWay(Calls c) {
        c.count(3, 0);
        c.count(4, 0);
        c.order(0, 0, 0);
    }

    static void promise1EmptyHistory(Calls c) {
        c.count(5, 0);
        c.undo(IMPOSSIBLE);
    }

    static void promise1NoSnapshot(Calls c) {
        c.count(7, 0);
        c.restore(IMPOSSIBLE);
    }

    static void promise1EmptyText(Calls c) {
        c.count(6, 0);
        c.clearText(0);
    }

    static void promise1ObjectsAreApart(Calls c) {
        PollMeshes other = new PollMeshes();
        other.variables(3);
        other.term(1, 1, 0, 0);
        other.keep();
        other.type('x');
        promise1TwoVariables(c);
        promise1NoTerms(c);
        promise1NoSnapshot(c);
        promise1EmptyText(c);
    }

    // ---- 2: variables

    static void promise2OneIsTheLeast(Calls c) {
        c.variables(1, 2);
        c.count(0, 1);
    }

    static void promise2ThreeIsTheMost(Calls c) {
        c.variables(3, 2);
        c.count(0, 3);
    }

    static void promise2BelowOne(Calls c) {
        c.variables(0, INVALID);
        c.variables(-1, INVALID);
        c.count(0, 2);
    }

    static void promise2AboveThree(Calls c) {
        c.variables(4, INVALID);
        c.count(0, 2);
    }

    static void promise2WildNumbers(Calls c) {
        for (int wild : Calls.WILD) {
            c.variables(wild, INVALID);
        }
        c.count(0, 2);
    }

    static void promise2HowManyThereWere(Calls c) {
        c.variables(3, 2);
        c.variables(1, 3);
        c.variables(2, 1);
    }

    static void promise2SameNumberForgetsTheRest(Calls c) {
        c.term(1, 1, 0, 0, 1);
        c.poll(1);
        c.variables(2, 2);
        c.count(1, 0);
        c.placeIs(0, 0, 0, 4);
        c.accountsAre(0, 0, 0, NOTHING);
    }

    static void promise2FunctionIsZero(Calls c) {
        c.ones(10);
        c.variables(2, 2);
        c.count(1, 0);
        c.termOf(0, 0, NOTHING);
        c.value(1, 1, 0, 0, 0);
        c.ones(10);
    }

    static void promise2BoundsAreAsAtFirst(Calls c) {
        c.variables(3, 2);
        for (int k = 0; k < 3; k++) {
            c.bound(k, 1, 1, 0);
        }
        c.variables(3, 3);
        for (int k = 0; k < 3; k++) {
            c.count(10 + k, -50);
            c.count(20 + k, 50);
        }
    }

    /** A bound of a variable that there isn't any more, or is again, must not count. */
    static void promise2BoundsOfVariablesThatGo(Calls c) {
        c.variables(3, 2);
        c.bound(1, 5, 5, 0);
        c.bound(2, 5, 5, 0);
        c.variables(1, 3);
        c.start(50, 0, 0, 0, 1);
        c.poll(-1);
        c.variables(3, 1);
        c.start(0, -50, 50, 0, 1);
    }

    static void promise2TwoDirectionsOfOneVariable(Calls c) {
        c.variables(1, 2);
        c.count(2, 2);
        c.directionIs(0, 1, 0, 0);
        c.directionIs(1, -1, 0, 0);
        c.directionOf(2, 0, NOTHING);
    }

    static void promise2SixDirectionsOfThreeVariables(Calls c) {
        c.variables(3, 2);
        c.count(2, 6);
        c.directionIs(0, 1, 0, 0);
        c.directionIs(1, -1, 0, 0);
        c.directionIs(2, 0, 1, 0);
        c.directionIs(3, 0, -1, 0);
        c.directionIs(4, 0, 0, 1);
        c.directionIs(5, 0, 0, -1);
        c.directionOf(6, 0, NOTHING);
    }

    static void promise2EightDirectionsAreForgotten(Calls c) {
        c.eightDirections();
        c.variables(2, 2);
        promise1FourDirectionsByVariables(c);
    }

    static void promise2NoDirectionIsForgotten(Calls c) {
        c.noDirections();
        c.variables(2, 2);
        promise1FourDirectionsByVariables(c);
    }

    static void promise2SearchIsAsAtFirst(Calls c) {
        c.term(1, 1, 0, 0, 1);
        c.start(-40, 7, 0, 0, 1);
        c.run(60, 11);
        c.searchOf(9, 1);
        c.variables(2, 2);
        c.placeIs(0, 0, 0, 4);
        promise1NoPollsAndNoSuccess(c);
        c.directionOf(1, 3, 0);
    }

    static void promise2OrderAndWayAreAsAtFirst(Calls c) {
        c.order(2, 1, 0);
        c.variables(3, 2);
        promise1OrderAndWay(c);
    }

    static void promise2HistoryStays(Calls c) {
        c.term(5, 1, 0, 0, 1);
        c.variables(1, 2);
        c.count(5, 2);
        c.undo(1);
        c.count(0, 2);
        c.termIs(0, 5, 1, 0, 0);
        c.undo(0);
        c.count(1, 0);
    }

    static void promise2SnapshotStays(Calls c) {
        c.term(5, 0, 1, 0, 1);
        c.keep(1);
        c.variables(1, 2);
        c.count(7, 1);
        c.restore(1);
        c.count(0, 2);
        c.termIs(0, 5, 0, 1, 0);
    }

    static void promise2TextStays(Calls c) {
        c.write("7xy");
        c.variables(3, 2);
        c.count(6, 3);
        c.read(1);
        c.termIs(0, 7, 1, 1, 0);
    }

    static void promise2RefusedChangesNothing(Calls c) {
        c.changesNothing(Calls::rich, d -> {
            d.variables(0, INVALID);
            d.variables(4, INVALID);
        });
    }

    // ---- 3: term

    static void promise3FactorAtItsEnds(Calls c) {
        c.term(99, 1, 0, 0, 1);
        c.term(-99, 1, 0, 0, 2);
        c.termOf(0, 0, 99);
        c.termOf(1, 0, -99);
    }

    static void promise3FactorBesideZero(Calls c) {
        c.term(1, 1, 0, 0, 1);
        c.term(-1, 1, 0, 0, 2);
        c.termOf(0, 0, 1);
        c.termOf(1, 0, -1);
    }

    static void promise3FactorZero(Calls c) {
        c.term(0, 1, 0, 0, INVALID);
        c.count(1, 0);
    }

    static void promise3FactorTooGreat(Calls c) {
        c.term(100, 1, 0, 0, INVALID);
        c.count(1, 0);
    }

    static void promise3FactorTooSmall(Calls c) {
        c.term(-100, 1, 0, 0, INVALID);
        c.count(1, 0);
    }

    static void promise3PowersAllZero(Calls c) {
        c.term(9, 0, 0, 0, 1);
        c.termIs(0, 9, 0, 0, 0);
        c.value(0, 0, 0, 0, 9);
    }

    static void promise3PowersOfFour(Calls c) {
        c.variables(3, 2);
        c.term(1, 4, 0, 0, 1);
        c.term(1, 0, 4, 0, 2);
        c.term(1, 0, 0, 4, 3);
        c.termIs(0, 1, 4, 0, 0);
        c.termIs(1, 1, 0, 4, 0);
        c.termIs(2, 1, 0, 0, 4);
    }

    static void promise3PowersOfFive(Calls c) {
        c.variables(3, 2);
        c.term(1, 5, 0, 0, INVALID);
        c.term(1, 0, 5, 0, INVALID);
        c.term(1, 0, 0, 5, INVALID);
        c.count(1, 0);
    }

    static void promise3PowersBelowZero(Calls c) {
        c.variables(3, 2);
        c.term(1, -1, 0, 0, INVALID);
        c.term(1, 0, -1, 0, INVALID);
        c.term(1, 0, 0, -1, INVALID);
        c.term(1, 4, -1, 1, INVALID);
        c.count(1, 0);
    }

    static void promise3PowersTogetherFour(Calls c) {
        c.variables(3, 2);
        c.term(1, 2, 2, 0, 1);
        c.term(1, 1, 0, 3, 2);
        c.term(1, 1, 1, 2, 3);
    }

    static void promise3PowersTogetherFive(Calls c) {
        c.variables(3, 2);
        c.term(1, 4, 1, 0, INVALID);
        c.term(1, 4, 0, 1, INVALID);
        c.term(1, 0, 1, 4, INVALID);
        c.term(1, 2, 2, 1, INVALID);
        c.term(1, 4, 4, 4, INVALID);
        c.count(1, 0);
    }

    static void promise3PowersOfVariablesThatThereAreNot(Calls c) {
        c.term(1, 0, 0, 1, INVALID);
        c.variables(1, 2);
        c.term(1, 0, 1, 0, INVALID);
        c.term(1, 0, 0, 1, INVALID);
        c.term(1, 1, 0, 0, 1);
    }

    static void promise3WildNumbers(Calls c) {
        c.variables(3, 2);
        for (int wild : Calls.WILD) {
            c.term(wild, 1, 0, 0, INVALID);
            c.term(1, wild, 0, 0, INVALID);
            c.term(1, 0, wild, 0, INVALID);
            c.term(1, 0, 0, wild, INVALID);
            c.term(1, wild, wild, 2, INVALID);
        }
        c.count(1, 0);
    }

    static void promise3SamePowersStayApart(Calls c) {
        c.term(3, 1, 1, 0, 1);
        c.term(-3, 1, 1, 0, 2);
        c.count(1, 2);
        c.termIs(0, 3, 1, 1, 0);
        c.termIs(1, -3, 1, 1, 0);
        c.value(7, 7, 0, 0, 0);
    }

    static void promise3TheTenth(Calls c) {
        c.ones(9);
        c.term(5, 1, 2, 0, 10);
        c.termIs(9, 5, 1, 2, 0);
    }

    static void promise3TheEleventh(Calls c) {
        c.ones(10);
        c.term(5, 1, 2, 0, LIMIT);
        c.count(1, 10);
        c.value(0, 0, 0, 0, 10);
    }

    static void promise3InvalidRatherThanLimit(Calls c) {
        c.ones(10);
        c.term(0, 1, 0, 0, INVALID);
        c.term(1, 5, 0, 0, INVALID);
        c.term(1, 4, 1, 0, INVALID);
        c.term(1, 0, 0, 1, INVALID);
    }

    static void promise3RoomAgainBehindADrop(Calls c) {
        c.ones(10);
        c.dropTerm(0, 1);
        c.term(5, 1, 2, 0, 10);
        c.termIs(9, 5, 1, 2, 0);
    }

    static void promise3RefusedChangesNothing(Calls c) {
        c.changesNothing(Calls::rich, d -> {
            d.term(1, 1, 0, 0, LIMIT);
            d.term(100, 1, 0, 0, INVALID);
            d.term(1, 2, 2, 2, INVALID);
        });
    }

    // ---- 4: dropTerm

    static void promise4NegativeIndex(Calls c) {
        c.ones(1);
        c.dropTerm(-1, INVALID);
        c.count(1, 1);
    }

    static void promise4NegativeIndexWithoutTerms(Calls c) {
        c.dropTerm(-1, INVALID);
    }

    static void promise4NoTerms(Calls c) {
        c.dropTerm(0, IMPOSSIBLE);
    }

    static void promise4IndexOfAsManyAsThereAre(Calls c) {
        c.ones(3);
        c.dropTerm(3, IMPOSSIBLE);
        c.count(1, 3);
    }

    static void promise4IndexBeyondTen(Calls c) {
        c.ones(10);
        c.dropTerm(10, IMPOSSIBLE);
        c.dropTerm(11, IMPOSSIBLE);
        c.count(1, 10);
    }

    static void promise4WildNumbers(Calls c) {
        c.ones(10);
        for (int wild : Calls.WILD) {
            c.dropTerm(wild, wild < 0 ? INVALID : IMPOSSIBLE);
        }
        c.count(1, 10);
    }

    /** Ten terms with factors and powers of their own. */
    private static void differentTerms(Calls c) {
        for (int i = 1; i <= 10; i++) {
            c.term(i, i % 3, i % 2, 0, i);
        }
    }

    static void promise4TheFirst(Calls c) {
        differentTerms(c);
        c.dropTerm(0, 1);
        for (int i = 0; i < 9; i++) {
            c.termIs(i, i + 2, (i + 2) % 3, i % 2, 0);
        }
        c.termOf(9, 0, NOTHING);
    }

    static void promise4TheLast(Calls c) {
        differentTerms(c);
        c.dropTerm(9, 10);
        for (int i = 0; i < 9; i++) {
            c.termIs(i, i + 1, (i + 1) % 3, (i + 1) % 2, 0);
        }
        c.termOf(9, 0, NOTHING);
    }

    static void promise4OneInTheMiddle(Calls c) {
        differentTerms(c);
        c.dropTerm(4, 5);
        c.termIs(3, 4, 1, 0, 0);
        c.termIs(4, 6, 0, 0, 0);
        c.termIs(8, 10, 1, 0, 0);
        c.count(1, 9);
    }

    static void promise4TheOnlyOne(Calls c) {
        c.term(-99, 4, 0, 0, 1);
        c.dropTerm(0, -99);
        c.count(1, 0);
        c.value(50, 0, 0, 0, 0);
        c.dropTerm(0, IMPOSSIBLE);
    }

    static void promise4RefusedChangesNothing(Calls c) {
        c.changesNothing(Calls::rich, d -> {
            d.dropTerm(-1, INVALID);
            d.dropTerm(10, IMPOSSIBLE);
        });
    }

    // ---- 5: bound

    static void promise5VariablesThatThereAreNot(Calls c) {
        c.bound(-1, 0, 0, INVALID);
        c.bound(2, 0, 0, INVALID);
        c.variables(1, 2);
        c.bound(1, 0, 0, INVALID);
        c.variables(3, 1);
        c.bound(3, 0, 0, INVALID);
    }

    static void promise5TheLastVariable(Calls c) {
        c.bound(1, -7, 7, 1);
        c.count(11, -7);
        c.variables(1, 2);
        c.bound(0, -7, 7, 1);
        c.count(10, -7);
        c.variables(3, 1);
        c.bound(2, -7, 7, 1);
        c.count(12, -7);
        c.count(22, 7);
    }

    static void promise5LowAtItsLeast(Calls c) {
        c.bound(0, -50, -50, 0);
        c.count(10, -50);
        c.count(20, -50);
    }

    static void promise5LowTooSmall(Calls c) {
        c.bound(0, -51, 0, INVALID);
        c.bound(0, -51, -51, INVALID);
        c.count(10, -50);
    }

    static void promise5HighAtItsMost(Calls c) {
        c.bound(0, 50, 50, 0);
        c.count(10, 50);
        c.count(20, 50);
    }

    static void promise5HighTooGreat(Calls c) {
        c.bound(0, 0, 51, INVALID);
        c.bound(0, 51, 51, INVALID);
        c.count(20, 50);
    }

    static void promise5LowAndHighTheSame(Calls c) {
        c.bound(1, 0, 0, 1);
        c.count(11, 0);
        c.count(21, 0);
    }

    static void promise5HighBelowLow(Calls c) {
        c.bound(1, 1, 0, INVALID);
        c.bound(1, 50, -50, INVALID);
        c.count(11, -50);
        c.count(21, 50);
    }

    static void promise5WildNumbers(Calls c) {
        for (int wild : Calls.WILD) {
            c.bound(wild, 0, 0, INVALID);
            c.bound(0, wild, 50, INVALID);
            c.bound(0, -50, wild, INVALID);
            c.bound(0, wild, wild, INVALID);
        }
        promise1WidestBounds(c);
    }

    static void promise5PlaceOnTheLowerBound(Calls c) {
        c.start(9, 9, 0, 0, 1);
        c.bound(0, 9, 50, 1);
        c.bound(0, 10, 50, 0);
    }

    static void promise5PlaceOnTheUpperBound(Calls c) {
        c.start(9, 9, 0, 0, 1);
        c.bound(1, -50, 9, 1);
        c.bound(1, -50, 8, 0);
    }

    static void promise5PlaceBeyondAnotherBound(Calls c) {
        c.bound(0, 1, 2, 0);
        c.bound(1, -50, 50, 0);
        c.bound(1, 0, 0, 0);
        c.bound(0, 0, 2, 1);
    }

    static void promise5ThirdVariable(Calls c) {
        c.variables(3, 2);
        c.start(0, 0, -50, 0, 1);
        c.bound(2, -50, -50, 1);
        c.bound(2, -49, 50, 0);
    }

    static void promise5PlaceStays(Calls c) {
        c.bound(0, 10, 20, 0);
        c.placeIs(0, 0, 0, 4);
        c.count(10, 10);
        c.count(20, 20);
    }

    static void promise5RefusedChangesNothing(Calls c) {
        c.changesNothing(Calls::rich, d -> {
            d.bound(3, 0, 0, INVALID);
            d.bound(0, 5, 4, INVALID);
            d.bound(1, -51, 4, INVALID);
        });
    }
}
