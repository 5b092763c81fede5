/** The boundary cases of promises 6 and 7: directions. */
final class DirectionsEdges {
    private static final int INVALID = Calls.INVALID;
    private static final int IMPOSSIBLE = Calls.IMPOSSIBLE;
    private static final int LIMIT = Calls.LIMIT;
    private static final int NOTHING = Calls.NOTHING;

    private DirectionsEdges() {
    }

    // ---- 6: direction

    static void promise6NumbersOfThree(Calls c) {
        c.variables(3, 2);
        c.direction(3, 3, 3, 6);
        c.direction(-3, -3, -3, 7);
        c.directionIs(6, 3, 3, 3);
        c.directionIs(7, -3, -3, -3);
    }

    static void promise6NumbersOfFour(Calls c) {
        c.variables(3, 2);
        c.direction(4, 0, 0, INVALID);
        c.direction(-4, 0, 0, INVALID);
        c.direction(0, 4, 0, INVALID);
        c.direction(0, -4, 0, INVALID);
        c.direction(0, 0, 4, INVALID);
        c.direction(0, 0, -4, INVALID);
        c.count(2, 6);
    }

    static void promise6WildNumbers(Calls c) {
        c.variables(3, 2);
        for (int wild : Calls.WILD) {
            c.direction(wild, 1, 1, INVALID);
            c.direction(1, wild, 1, INVALID);
            c.direction(1, 1, wild, INVALID);
        }
        c.count(2, 6);
    }

    static void promise6AllZero(Calls c) {
        c.direction(0, 0, 0, INVALID);
        c.variables(1, 2);
        c.direction(0, 0, 0, INVALID);
        c.variables(3, 1);
        c.direction(0, 0, 0, INVALID);
        c.count(2, 6);
    }

    static void promise6AllZeroButOne(Calls c) {
        c.variables(3, 2);
        c.noDirections();
        c.direction(0, 0, 1, 0);
        c.direction(0, -1, 0, 1);
        c.direction(1, 0, 0, 2);
    }

    static void promise6NumbersOfVariablesThatThereAreNot(Calls c) {
        c.direction(1, 1, 1, INVALID);
        c.direction(0, 0, 1, INVALID);
        c.variables(1, 2);
        c.direction(2, 1, 0, INVALID);
        c.direction(2, 0, -1, INVALID);
        c.direction(2, 0, 0, 2);
    }

    static void promise6ItIsThere(Calls c) {
        c.direction(1, 0, 0, IMPOSSIBLE);
        c.direction(0, -1, 0, IMPOSSIBLE);
        c.direction(2, -3, 0, 4);
        c.direction(2, -3, 0, IMPOSSIBLE);
        c.count(2, 5);
    }

    static void promise6ItIsThereBehindSeven(Calls c) {
        c.eightDirections();
        c.direction(-3, 3, 0, IMPOSSIBLE);
    }

    static void promise6OneNumberDiffers(Calls c) {
        c.variables(3, 2);
        c.onlyDirections(1, 2, 3);
        c.direction(2, 2, 3, 1);
        c.direction(1, 1, 3, 2);
        c.direction(1, 2, 2, 3);
    }

    static void promise6MultiplesAndOppositesAreOthers(Calls c) {
        c.direction(2, 0, 0, 4);
        c.direction(-3, 0, 0, 5);
        c.direction(1, 2, 0, 6);
        c.direction(2, 1, 0, 7);
    }

    static void promise6TheEighth(Calls c) {
        c.eightDirections();
        c.count(2, 8);
        c.directionIs(7, -3, 3, 0);
    }

    static void promise6TheNinth(Calls c) {
        c.eightDirections();
        c.direction(2, 2, 0, LIMIT);
        c.count(2, 8);
        c.directionOf(8, 0, NOTHING);
    }

    static void promise6NotPossibleRatherThanLimit(Calls c) {
        c.eightDirections();
        c.direction(1, 1, 0, IMPOSSIBLE);
    }

    static void promise6InvalidRatherThanLimit(Calls c) {
        c.eightDirections();
        c.direction(0, 0, 0, INVALID);
        c.direction(4, 0, 0, INVALID);
        c.direction(1, 0, 1, INVALID);
    }

    static void promise6RoomAgainBehindADrop(Calls c) {
        c.eightDirections();
        c.dropDirection(0, 7);
        c.direction(2, 2, 0, 7);
        c.directionIs(7, 2, 2, 0);
    }

    static void promise6DroppedOneIsNotThere(Calls c) {
        c.dropDirection(3, 3);
        c.direction(0, -1, 0, 3);
        c.dropDirection(0, 3);
        c.direction(1, 0, 0, 3);
    }

    static void promise6FirstOne(Calls c) {
        c.noDirections();
        c.direction(-2, 3, 0, 0);
        c.count(2, 1);
        c.directionIs(0, -2, 3, 0);
    }

    static void promise6WasNotTakenSoFar(Calls c) {
        c.term(1, 1, 0, 0, 1);
        c.poll(1);
        c.poll(1);
        c.direction(2, 2, 0, 4);
        c.directionOf(4, 3, 0);
        c.directionOf(1, 3, 2);
    }

    static void promise6RefusedChangesNothing(Calls c) {
        c.changesNothing(Calls::rich, d -> {
            d.direction(3, 2, 1, LIMIT);
            d.direction(1, 1, 1, IMPOSSIBLE);
            d.direction(0, 0, 0, INVALID);
            d.direction(4, 0, 0, INVALID);
        });
    }

    // ---- 7: dropDirection

    static void promise7NegativeIndex(Calls c) {
        c.dropDirection(-1, INVALID);
        c.count(2, 4);
    }

    static void promise7NegativeIndexWithoutDirections(Calls c) {
        c.noDirections();
        c.dropDirection(-1, INVALID);
    }

    static void promise7IndexOfAsManyAsThereAre(Calls c) {
        c.dropDirection(4, IMPOSSIBLE);
        c.count(2, 4);
    }

    static void promise7IndexBeyondEight(Calls c) {
        c.eightDirections();
        c.dropDirection(8, IMPOSSIBLE);
        c.dropDirection(9, IMPOSSIBLE);
        c.count(2, 8);
    }

    static void promise7WildNumbers(Calls c) {
        c.eightDirections();
        for (int wild : Calls.WILD) {
            c.dropDirection(wild, wild < 0 ? INVALID : IMPOSSIBLE);
        }
        c.count(2, 8);
    }

    static void promise7NoDirections(Calls c) {
        c.noDirections();
        c.count(2, 0);
        c.dropDirection(0, IMPOSSIBLE);
    }

    static void promise7TheOnlyOne(Calls c) {
        c.onlyDirections(2, 3, 0);
        c.dropDirection(0, 0);
        c.directionOf(0, 0, NOTHING);
    }

    static void promise7TheFirstOfEight(Calls c) {
        c.eightDirections();
        c.dropDirection(0, 7);
        c.directionIs(0, -1, 0, 0);
        c.directionIs(1, 0, 1, 0);
        c.directionIs(2, 0, -1, 0);
        c.directionIs(3, 1, 1, 0);
        c.directionIs(4, -1, -1, 0);
        c.directionIs(5, 3, -3, 0);
        c.directionIs(6, -3, 3, 0);
        c.directionOf(7, 0, NOTHING);
    }

    static void promise7TheLastOfEight(Calls c) {
        c.eightDirections();
        c.dropDirection(7, 7);
        c.directionIs(0, 1, 0, 0);
        c.directionIs(6, 3, -3, 0);
        c.directionOf(7, 0, NOTHING);
    }

    static void promise7OneInTheMiddle(Calls c) {
        c.eightDirections();
        c.dropDirection(3, 7);
        c.directionIs(2, 0, 1, 0);
        c.directionIs(3, 1, 1, 0);
        c.directionIs(6, -3, 3, 0);
    }

    /** How often they were taken goes with those behind the one that is dropped. */
    static void promise7TakenGoesAlong(Calls c) {
        c.term(1, 0, 1, 0, 1);
        c.poll(3);
        c.poll(3);
        c.dropDirection(1, 3);
        c.directionOf(2, 3, 2);
        c.directionOf(1, 3, 0);
        c.dropDirection(0, 2);
        c.directionOf(1, 3, 2);
        c.directionOf(0, 3, 0);
    }

    static void promise7LatestSuccessAheadOfTheDropped(Calls c) {
        c.term(1, 1, 0, 0, 1);
        c.poll(1);
        c.dropDirection(2, 3);
        c.searchOf(7, 1);
        c.dropDirection(2, 2);
        c.searchOf(7, 1);
    }

    static void promise7LatestSuccessBehindTheDropped(Calls c) {
        c.term(1, 1, 0, 0, 1);
        c.poll(1);
        c.dropDirection(0, 3);
        c.searchOf(7, 0);
    }

    static void promise7LatestSuccessDropped(Calls c) {
        c.term(1, 1, 0, 0, 1);
        c.poll(1);
        c.dropDirection(1, 3);
        c.searchOf(7, NOTHING);
        c.searchOf(5, 1);
        c.searchOf(8, 1);
        c.leftAt(0, 0, 0);
    }

    static void promise7RefusedChangesNothing(Calls c) {
        c.changesNothing(Calls::rich, d -> {
            d.dropDirection(-1, INVALID);
            d.dropDirection(8, IMPOSSIBLE);
        });
    }
}
