/** Promises 22 to 24: the snapshot and the history. */
final class StatesTest {
    private static final int INVALID = Calls.INVALID;
    private static final int IMPOSSIBLE = Calls.IMPOSSIBLE;
    private static final int NOTHING = Calls.NOTHING;

    private StatesTest() {
    }

    static void check(Due due) {
        keep(new Calls(due, "promise 22"));
        restore(new Calls(due, "promise 23"));
        restoreOfAllRows(new Calls(due, "promise 23, full rows"));
        undo(new Calls(due, "promise 24"));
        undoOfEachChange(new Calls(due, "promise 24, each change"));
        historyOfFour(new Calls(due, "promise 24, four states"));
        errorsChangeNothing(new Calls(due, "changes and errors"));
    }

    private static void keep(Calls c) {
        c.keep(0);
        c.count(5, 0);
        c.count(7, 1);
        c.term(1, 1, 0, 0, 1);
        c.term(2, 1, 0, 0, 2);
        c.keep(2);
        c.count(5, 2);
        c.dropTerm(0, 1);
        c.restore(2);
        c.termOf(0, 0, 1);
        c.dropTerm(0, 1);
        c.keep(1);
        c.restore(1);
        c.termOf(0, 0, 2);
        c.undo(3);
        c.count(7, 1);
    }

    /** All of a state comes back, and the snapshot, the text and the history are no part of it. */
    private static void restore(Calls c) {
        c.restore(IMPOSSIBLE);
        c.variables(3, 2);
        c.term(1, 2, 0, 0, 1);
        c.term(1, 0, 0, 2, 2);
        c.bound(1, -7, 9, 1);
        c.direction(1, 2, 3, 6);
        c.order(1, 1, 0);
        c.start(20, 0, 5, 1, 1);
        c.run(3, 3);
        c.placeIs(6, 0, 5, 16);
        c.keep(2);
        c.type('7', 1);
        c.variables(1, 3);
        c.term(5, 4, 0, 0, 1);
        c.start(-9, 0, 0, 3, 1);
        c.restore(2);
        c.count(0, 3);
        c.count(1, 2);
        c.termIs(1, 1, 0, 0, 2);
        c.count(2, 7);
        c.directionIs(6, 1, 2, 3);
        c.directionOf(1, 3, 3);
        c.count(3, 1);
        c.count(4, 1);
        c.count(5, 4);
        c.count(6, 1);
        c.count(7, 1);
        c.count(11, -7);
        c.count(21, 9);
        c.placeIs(6, 0, 5, 16);
        c.accountsAre(3, 3, 19, 1);
        c.searchOf(8, 3);
        c.leftAt(0, 0, 14);
        c.leftAt(2, 2, 5);
        c.poll(-1);
        c.dropTerm(1, 1);
        c.restore(2);
        c.searchOf(4, 3);
        c.undo(3);
        c.count(1, 1);
        c.undo(2);
        c.undo(1);
        c.undo(0);
        c.placeIs(-9, 0, 0, 8);
        c.restore(2);
        c.placeIs(6, 0, 5, 16);
    }

    /** Ten terms, eight directions and six places left: each comes back to its last number. */
    private static void restoreOfAllRows(Calls c) {
        c.variables(3, 2);
        for (int i = 0; i < 9; i++) {
            c.term(factorOf(i), i / 2 % 2, i / 2 % 4, 0, i + 1);
        }
        c.term(99, 0, 0, 1, 10);
        c.dropDirection(4, 5);
        c.dropDirection(4, 4);
        c.direction(1, 2, 3, 4);
        c.direction(-3, -2, -1, 5);
        c.direction(3, 1, 2, 6);
        c.direction(0, 0, -1, 7);
        c.bound(0, -40, 40, 1);
        c.bound(1, -41, 41, 1);
        c.bound(2, -49, 42, 1);
        c.start(30, 20, 40, 0, 1);
        c.run(7, 7);
        c.keep(10);
        fullRows(c);
        c.variables(1, 3);
        c.start(-50, 0, 0, 0, 1);
        c.term(1, 1, 0, 0, 1);
        c.dropDirection(0, 1);
        c.restore(10);
        fullRows(c);
        c.start(9, 9, 9, 4, 1);
        c.dropTerm(0, 1);
        c.dropDirection(0, 7);
        c.run(6, 6);
        c.undo(3);
        c.undo(2);
        c.undo(1);
        c.undo(0);
        fullRows(c);
    }

    /** The odd ones are the opposites of those ahead of them, so that only the last two terms matter. */
    private static int factorOf(int index) {
        return index % 2 == 0 ? index + 1 : -index;
    }

    private static void fullRows(Calls c) {
        for (int i = 0; i < 9; i++) {
            c.termIs(i, factorOf(i), i / 2 % 2, i / 2 % 4, 0);
        }
        c.termIs(9, 99, 0, 0, 1);
        c.directionIs(0, 1, 0, 0);
        c.directionIs(1, -1, 0, 0);
        c.directionIs(2, 0, 1, 0);
        c.directionIs(3, 0, -1, 0);
        c.directionIs(4, 1, 2, 3);
        c.directionIs(5, -3, -2, -1);
        c.directionIs(6, 3, 1, 2);
        c.directionIs(7, 0, 0, -1);
        c.directionOf(5, 3, 4);
        c.directionOf(7, 3, 3);
        c.placeIs(-15, -10, -23, 16);
        c.searchOf(7, 7);
        for (int k = 0; k < 3; k++) {
            c.count(10 + k, k == 2 ? -49 : -40 - k);
            c.count(20 + k, 40 + k);
        }
        c.searchOf(8, 6);
        int[][] left = {{-15, -10, -7}, {-15, -10, 9}, {-15, -10, 25}, {9, 6, 33}, {21, 14, 37}, {27, 18, 39}};
        for (int i = 0; i < 6; i++) {
            for (int k = 0; k < 3; k++) {
                c.leftAt(i, k, left[i][k]);
            }
        }
    }

    private static void undo(Calls c) {
        c.undo(IMPOSSIBLE);
        c.term(3, 1, 0, 0, 1);
        c.undo(0);
        c.count(1, 0);
        c.count(5, 0);
        c.undo(IMPOSSIBLE);
        c.term(3, 1, 0, 0, 1);
        c.type('4', 1);
        c.keep(1);
        c.poll(1);
        c.undo(1);
        c.count(6, 1);
        c.count(7, 1);
        c.placeIs(0, 0, 0, 4);
        c.accountsAre(0, 0, 0, NOTHING);
        c.searchOf(8, 0);
        c.directionOf(1, 3, 0);
        c.undo(0);
        c.restore(1);
        c.count(5, 1);
        c.undo(0);
        c.count(1, 0);
        c.count(7, 1);
    }

    private static void undoOfEachChange(Calls c) {
        c.variables(3, 2);
        c.undo(0);
        c.count(0, 2);
        c.term(3, 1, 0, 0, 1);
        c.dropTerm(0, 3);
        c.undo(1);
        c.termIs(0, 3, 1, 0, 0);
        c.bound(0, 1, 2, 0);
        c.undo(1);
        c.count(10, -50);
        c.count(20, 50);
        c.direction(1, 1, 0, 4);
        c.undo(1);
        c.count(2, 4);
        c.dropDirection(0, 3);
        c.undo(1);
        c.count(2, 4);
        c.directionIs(0, 1, 0, 0);
        c.start(9, 8, 0, 0, 1);
        c.undo(1);
        c.placeIs(0, 0, 0, 4);
        c.order(2, 1, 0);
        c.undo(1);
        c.count(3, 0);
        c.count(4, 0);
        c.poll(1);
        c.undo(1);
        c.searchOf(4, 0);
        c.run(5, 5);
        c.undo(1);
        c.searchOf(4, 0);
        c.type('9', 1);
        c.read(1);
        c.termIs(0, 9, 0, 0, 0);
        c.undo(1);
        c.termIs(0, 3, 1, 0, 0);
        c.undo(0);
        c.count(1, 0);
    }

    private static void historyOfFour(Calls c) {
        for (int i = 1; i <= 6; i++) {
            c.term(i, 1, 0, 0, i);
            c.count(5, Math.min(i, 4));
        }
        c.undo(3);
        c.count(1, 5);
        c.undo(2);
        c.undo(1);
        c.undo(0);
        c.count(1, 2);
        c.undo(IMPOSSIBLE);
        c.count(1, 2);
        c.order(0, 0, 0);
        c.bound(0, -50, 50, 1);
        c.count(5, 2);
    }

    private static void errorsChangeNothing(Calls c) {
        c.type('z', 1);
        c.variables(0, INVALID);
        c.term(0, 0, 0, 0, INVALID);
        c.dropTerm(0, IMPOSSIBLE);
        c.bound(2, 0, 0, INVALID);
        c.direction(1, 0, 0, IMPOSSIBLE);
        c.dropDirection(9, IMPOSSIBLE);
        c.start(0, 0, 9, 0, INVALID);
        c.order(9, 0, INVALID);
        c.run(0, INVALID);
        c.restore(IMPOSSIBLE);
        c.read(IMPOSSIBLE);
        c.type(31, INVALID);
        c.count(0, 2);
        c.count(1, 0);
        c.count(2, 4);
        c.count(5, 0);
        c.count(6, 1);
        c.placeIs(0, 0, 0, 4);
        c.searchOf(4, 0);
    }
}
