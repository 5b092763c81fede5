/** Promises 1 to 7: a new object; functions, bounds and directions. */
final class FunctionsTest {
    private static final int INVALID = Calls.INVALID;
    private static final int IMPOSSIBLE = Calls.IMPOSSIBLE;
    private static final int LIMIT = Calls.LIMIT;
    private static final int NOTHING = Calls.NOTHING;

    private FunctionsTest() {
    }

    static void check(Due due) {
        newObject(new Calls(due, "promise 1"));
        variables(new Calls(due, "promise 2"));
        variablesOfFirstDirections(new Calls(due, "promise 2, directions"));
        term(new Calls(due, "promise 3"));
        termsOfFewerVariables(new Calls(due, "promise 3, fewer variables"));
        dropTerm(new Calls(due, "promise 4"));
        bound(new Calls(due, "promise 5"));
        direction(new Calls(due, "promise 6"));
        directionsOfFewerVariables(new Calls(due, "promise 6, fewer variables"));
        dropDirection(new Calls(due, "promise 7"));
        dropDirectionAndLatest(new Calls(due, "promise 7, latest success"));
    }

    /** All that there is without a change, with the first directions of two variables. */
    private static void isAsAtFirst(Calls c) {
        c.count(1, 0);
        c.count(2, 4);
        c.count(3, 0);
        c.count(4, 0);
        c.count(10, -50);
        c.count(11, -50);
        c.count(20, 50);
        c.count(21, 50);
        c.directionIs(0, 1, 0, 0);
        c.directionIs(1, -1, 0, 0);
        c.directionIs(2, 0, 1, 0);
        c.directionIs(3, 0, -1, 0);
        for (int i = 0; i < 4; i++) {
            c.directionOf(i, 3, 0);
        }
        c.placeIs(0, 0, 0, 4);
        c.accountsAre(0, 0, 0, NOTHING);
        c.searchOf(8, 0);
        c.searchOf(9, 0);
        c.value(7, -9, 0, 0, 0);
        c.value(7, -9, 0, 1, 0);
        c.spans(1);
        c.stuck(0, 1);
    }

    private static void newObject(Calls c) {
        c.count(0, 2);
        isAsAtFirst(c);
        c.count(5, 0);
        c.count(6, 0);
        c.count(7, 0);
        c.undo(IMPOSSIBLE);
        c.restore(IMPOSSIBLE);
        c.fault(0, 0);
        c.fault(1, 1);
        c.trialsAre(0, 1, 2, 3);
        c.aroundIs(3, -12, -12, 0);
    }

    private static void variables(Calls c) {
        c.variables(0, INVALID);
        c.variables(4, INVALID);
        c.variables(-1, INVALID);
        c.variables(Integer.MAX_VALUE, INVALID);
        c.variables(Integer.MIN_VALUE, INVALID);
        c.count(5, 0);
        c.term(1, 1, 0, 0, 1);
        c.bound(0, -9, 9, 1);
        c.bound(1, -8, 8, 1);
        c.direction(1, 1, 0, 4);
        c.order(1, 1, 0);
        c.poll(1);
        c.keep(1);
        c.type('x', 1);
        c.variables(2, 2);
        c.count(0, 2);
        isAsAtFirst(c);
        c.count(5, 4);
        c.count(6, 1);
        c.count(7, 1);
        c.undo(3);
        c.count(2, 5);
        c.placeIs(-4, 0, 0, 8);
        c.variables(3, 2);
        c.variables(1, 3);
        c.variables(2, 1);
        isAsAtFirst(c);
        c.restore(1);
        c.count(2, 5);
    }

    private static void variablesOfFirstDirections(Calls c) {
        c.start(1, 2, 0, 0, 1);
        c.variables(1, 2);
        c.count(0, 1);
        c.count(2, 2);
        c.directionIs(0, 1, 0, 0);
        c.directionIs(1, -1, 0, 0);
        c.placeIs(0, 0, 0, 4);
        c.count(11, INVALID);
        c.variables(3, 1);
        c.count(2, 6);
        c.directionIs(4, 0, 0, 1);
        c.directionIs(5, 0, 0, -1);
        c.bound(2, 1, 2, 0);
        c.variables(3, 3);
        c.count(12, -50);
        c.count(22, 50);
    }

    private static void term(Calls c) {
        c.variables(3, 2);
        c.term(0, 1, 0, 0, INVALID);
        c.term(100, 1, 0, 0, INVALID);
        c.term(-100, 1, 0, 0, INVALID);
        c.term(1, -1, 0, 0, INVALID);
        c.term(1, 0, -1, 0, INVALID);
        c.term(1, 0, 0, -1, INVALID);
        c.term(1, 5, 0, 0, INVALID);
        c.term(1, 0, 5, 0, INVALID);
        c.term(1, 0, 0, 5, INVALID);
        c.term(1, 2, 2, 1, INVALID);
        c.term(1, Integer.MAX_VALUE, Integer.MAX_VALUE, 2, INVALID);
        c.term(1, 5, -1, 0, INVALID);
        c.count(1, 0);
        c.count(5, 1);
        c.term(99, 4, 0, 0, 1);
        c.term(-99, 0, 4, 0, 2);
        c.term(1, 0, 0, 4, 3);
        c.term(2, 1, 1, 2, 4);
        c.term(2, 1, 1, 2, 5);
        c.term(-5, 0, 0, 0, 6);
        c.count(1, 6);
        c.termIs(0, 99, 4, 0, 0);
        c.termIs(1, -99, 0, 4, 0);
        c.termIs(2, 1, 0, 0, 4);
        c.termIs(3, 2, 1, 1, 2);
        c.termIs(4, 2, 1, 1, 2);
        c.termIs(5, -5, 0, 0, 0);
        c.value(1, 2, 3, 0, 99 - 99 * 16 + 81 + 2 * 36 - 5);
        c.term(1, 1, 0, 0, 7);
        c.term(1, 1, 0, 0, 8);
        c.term(1, 1, 0, 0, 9);
        c.term(1, 1, 0, 0, 10);
        c.term(1, 1, 0, 0, LIMIT);
        c.term(0, 1, 0, 0, INVALID);
        c.count(1, 10);
        c.undo(3);
        c.count(1, 9);
    }

    private static void termsOfFewerVariables(Calls c) {
        c.term(1, 1, 1, 1, INVALID);
        c.term(1, 1, 1, 0, 1);
        c.variables(1, 2);
        c.term(1, 1, 1, 0, INVALID);
        c.term(1, 1, 0, 1, INVALID);
        c.term(1, 4, 0, 0, 1);
        c.value(-3, 0, 0, 0, 81);
    }

    private static void dropTerm(Calls c) {
        c.dropTerm(-1, INVALID);
        c.dropTerm(Integer.MIN_VALUE, INVALID);
        c.dropTerm(0, IMPOSSIBLE);
        c.term(3, 1, 2, 0, 1);
        c.term(-4, 0, 3, 0, 2);
        c.term(5, 4, 0, 0, 3);
        c.dropTerm(3, IMPOSSIBLE);
        c.dropTerm(Integer.MAX_VALUE, IMPOSSIBLE);
        c.count(5, 3);
        c.dropTerm(1, -4);
        c.count(5, 4);
        c.count(1, 2);
        c.termIs(0, 3, 1, 2, 0);
        c.termIs(1, 5, 4, 0, 0);
        c.termOf(2, 0, NOTHING);
        c.value(2, 1, 0, 0, 3 * 2 + 5 * 16);
        c.dropTerm(0, 3);
        c.termIs(0, 5, 4, 0, 0);
        c.dropTerm(0, 5);
        c.dropTerm(0, IMPOSSIBLE);
        c.value(2, 1, 0, 0, 0);
        c.undo(3);
        c.termIs(0, 5, 4, 0, 0);
        for (int i = 2; i <= 10; i++) {
            c.term(i, i % 5, 0, 0, i);
        }
        c.dropTerm(9, 10);
        c.dropTerm(0, 5);
        c.termIs(7, 9, 4, 0, 0);
        c.termOf(8, 0, NOTHING);
    }

    private static void bound(Calls c) {
        c.bound(-1, 0, 0, INVALID);
        c.bound(2, 0, 0, INVALID);
        c.bound(0, -51, 0, INVALID);
        c.bound(0, 0, 51, INVALID);
        c.bound(0, 1, 0, INVALID);
        c.bound(0, 51, 52, INVALID);
        c.bound(0, -52, -51, INVALID);
        c.bound(Integer.MAX_VALUE, 0, 0, INVALID);
        c.bound(Integer.MIN_VALUE, 0, 0, INVALID);
        c.count(5, 0);
        c.bound(0, 0, 0, 1);
        c.bound(1, 1, 50, 0);
        c.count(10, 0);
        c.count(20, 0);
        c.count(11, 1);
        c.count(21, 50);
        c.bound(0, -50, -1, 0);
        c.bound(1, -50, 50, 0);
        c.count(11, -50);
        c.bound(0, -50, 50, 1);
        c.count(5, 4);
        c.bound(0, -50, -50, 0);
        c.start(-50, 0, 0, 0, 1);
        c.bound(0, 50, 50, 0);
        c.variables(1, 2);
        c.bound(1, 0, 0, INVALID);
        c.variables(3, 1);
        c.bound(2, 3, 4, 0);
        c.bound(3, 3, 4, INVALID);
        c.count(12, 3);
        c.count(22, 4);
        c.start(1, 2, 3, 0, 1);
        c.bound(0, 1, 1, 1);
        c.bound(1, 2, 2, 1);
        c.bound(2, 3, 3, 1);
        c.bound(2, 2, 2, 0);
        c.bound(2, 4, 4, 0);
    }

    private static void direction(Calls c) {
        c.direction(0, 0, 0, INVALID);
        c.direction(4, 0, 0, INVALID);
        c.direction(-4, 0, 0, INVALID);
        c.direction(0, 4, 0, INVALID);
        c.direction(0, -4, 0, INVALID);
        c.direction(1, 1, 1, INVALID);
        c.direction(Integer.MIN_VALUE, 0, 0, INVALID);
        c.direction(1, 0, 0, IMPOSSIBLE);
        c.direction(0, -1, 0, IMPOSSIBLE);
        c.count(5, 0);
        c.direction(2, 0, 0, 4);
        c.direction(3, -3, 0, 5);
        c.direction(3, -3, 0, IMPOSSIBLE);
        c.direction(-3, 3, 0, 6);
        c.direction(0, 3, 0, 7);
        c.direction(0, 2, 0, LIMIT);
        c.direction(2, 0, 0, IMPOSSIBLE);
        c.direction(0, 0, 0, INVALID);
        c.count(2, 8);
        c.count(5, 4);
        c.directionIs(4, 2, 0, 0);
        c.directionIs(5, 3, -3, 0);
        c.directionIs(6, -3, 3, 0);
        c.directionIs(7, 0, 3, 0);
        c.directionOf(8, 0, NOTHING);
    }

    private static void directionsOfFewerVariables(Calls c) {
        c.variables(1, 2);
        c.direction(0, 1, 0, INVALID);
        c.direction(1, 1, 0, INVALID);
        c.direction(1, 0, 1, INVALID);
        c.direction(2, 0, 0, 2);
        c.variables(3, 1);
        c.direction(0, 0, 4, INVALID);
        c.direction(0, 0, -4, INVALID);
        c.direction(0, 0, -1, IMPOSSIBLE);
        c.direction(0, 0, -3, 6);
        c.directionIs(6, 0, 0, -3);
    }

    private static void dropDirection(Calls c) {
        c.dropDirection(-1, INVALID);
        c.dropDirection(Integer.MIN_VALUE, INVALID);
        c.dropDirection(4, IMPOSSIBLE);
        c.dropDirection(Integer.MAX_VALUE, IMPOSSIBLE);
        c.count(5, 0);
        c.dropDirection(1, 3);
        c.count(5, 1);
        c.count(2, 3);
        c.directionIs(0, 1, 0, 0);
        c.directionIs(1, 0, 1, 0);
        c.directionIs(2, 0, -1, 0);
        c.directionOf(3, 0, NOTHING);
        c.dropDirection(2, 2);
        c.dropDirection(0, 1);
        c.directionIs(0, 0, 1, 0);
        c.dropDirection(0, 0);
        c.dropDirection(0, IMPOSSIBLE);
        c.direction(-2, 1, 0, 0);
        c.directionIs(0, -2, 1, 0);
    }

    /** The latest success and how often directions were taken go with their directions. */
    private static void dropDirectionAndLatest(Calls c) {
        c.term(1, 0, 1, 0, 1);
        c.poll(3);
        c.poll(3);
        c.directionOf(3, 3, 2);
        c.searchOf(7, 3);
        c.dropDirection(0, 3);
        c.searchOf(7, 2);
        c.directionOf(2, 3, 2);
        c.directionOf(1, 3, 0);
        c.direction(2, 0, 0, 3);
        c.dropDirection(3, 3);
        c.searchOf(7, 2);
        c.dropDirection(2, 2);
        c.searchOf(7, NOTHING);
        c.searchOf(5, 2);
        c.direction(0, -1, 0, 2);
        c.searchOf(7, NOTHING);
        c.directionOf(2, 3, 0);
        c.dropDirection(0, 2);
        c.searchOf(7, NOTHING);
        c.poll(1);
        c.searchOf(7, 1);
        c.directionOf(1, 3, 1);
    }
}
