/** Promises 12 to 17: what there is. */
final class ViewsTest {
    private static final int INVALID = Calls.INVALID;
    private static final int NOTHING = Calls.NOTHING;

    private ViewsTest() {
    }

    static void check(Due due) {
        value(new Calls(due, "promise 12"));
        valueOfGreatNumbers(new Calls(due, "promise 12, great numbers"));
        valueOfFewerVariables(new Calls(due, "promise 12, fewer variables"));
        termOf(new Calls(due, "promise 13"));
        directionOf(new Calls(due, "promise 14"));
        directionTaken(new Calls(due, "promise 14, taken"));
        searchOf(new Calls(due, "promise 15"));
        leftAt(new Calls(due, "promise 16"));
        count(new Calls(due, "promise 17"));
        looksChangeNothing(new Calls(due, "promises 12 to 21"));
    }

    private static void value(Calls c) {
        c.valueInvalid(51, 0, 0, 0);
        c.valueInvalid(-51, 0, 0, 0);
        c.valueInvalid(0, 51, 0, 0);
        c.valueInvalid(0, -51, 0, 0);
        c.valueInvalid(0, 0, 1, 0);
        c.valueInvalid(0, 0, 0, -1);
        c.valueInvalid(0, 0, 0, 2);
        c.value(0, 0, 0, 0, 0);
        c.term(7, 0, 0, 0, 1);
        c.term(-3, 1, 0, 0, 2);
        c.term(2, 1, 1, 0, 3);
        c.term(5, 0, 3, 0, 4);
        c.term(1, 2, 2, 0, 5);
        c.term(1, 2, 1, 0, 6);
        c.term(4, 0, 2, 0, 7);
        c.value(0, 0, 0, 0, 7);
        c.value(2, -3, 0, 0, 7 - 6 - 12 - 135 + 36 - 12 + 36);
        c.value(2, -3, 0, 1, 7 - 6 - 12 + 36);
        c.bound(0, 5, 9, 0);
        c.value(2, -3, 0, 1, 25);
    }

    private static void valueOfGreatNumbers(Calls c) {
        for (int i = 1; i <= 10; i++) {
            c.term(-99, 4, 0, 0, i);
        }
        c.value(50, 0, 0, 0, -6187500000L);
        c.value(-50, 0, 0, 0, -6187500000L);
        c.value(-50, 0, 0, 1, 0);
        c.start(50, 0, 0, 0, 1);
        c.stuck(4, 1);
        c.start(49, 0, 0, 0, 1);
        c.stuck(0, 0);
        c.poll(0);
    }

    private static void valueOfFewerVariables(Calls c) {
        c.variables(1, 2);
        c.valueInvalid(1, 1, 0, 0);
        c.valueInvalid(1, 0, 1, 0);
        c.term(2, 3, 0, 0, 1);
        c.value(-3, 0, 0, 0, -54);
        c.value(-3, 0, 0, 1, 0);
        c.variables(3, 1);
        c.valueInvalid(0, 0, 51, 0);
        c.valueInvalid(0, 0, -51, 0);
        c.term(3, 1, 1, 1, 1);
        c.term(-2, 0, 0, 1, 2);
        c.value(2, 3, -5, 0, -90 + 10);
        c.value(2, 3, -5, 1, 10);
    }

    private static void termOf(Calls c) {
        c.termOf(0, 0, NOTHING);
        c.termOf(-1, 0, INVALID);
        c.termOf(0, -1, INVALID);
        c.termOf(0, 4, INVALID);
        c.termOf(Integer.MIN_VALUE, 0, INVALID);
        c.term(8, 1, 2, 0, 1);
        c.termIs(0, 8, 1, 2, 0);
        c.termOf(1, 0, NOTHING);
        c.termOf(10, 3, NOTHING);
        c.termOf(Integer.MAX_VALUE, 3, NOTHING);
        c.termOf(Integer.MAX_VALUE, 4, INVALID);
        c.variables(3, 2);
        c.term(-1, 1, 0, 3, 1);
        c.termIs(0, -1, 1, 0, 3);
    }

    private static void directionOf(Calls c) {
        c.directionOf(-1, 0, INVALID);
        c.directionOf(0, -1, INVALID);
        c.directionOf(0, 4, INVALID);
        c.directionOf(4, 0, NOTHING);
        c.directionOf(4, 4, INVALID);
        c.directionOf(8, 3, NOTHING);
        c.directionOf(Integer.MAX_VALUE, 3, NOTHING);
        c.directionOf(Integer.MIN_VALUE, 3, INVALID);
        c.direction(-3, 2, 0, 4);
        c.directionIs(4, -3, 2, 0);
        c.variables(1, 2);
        c.directionIs(1, -1, 0, 0);
        c.directionOf(2, 0, NOTHING);
    }

    private static void directionTaken(Calls c) {
        c.term(1, 2, 0, 0, 1);
        c.start(50, 0, 0, 0, 1);
        c.poll(1);
        c.directionOf(1, 3, 1);
        c.poll(1);
        c.directionOf(1, 3, 2);
        c.directionOf(0, 3, 0);
        c.start(-50, 0, 0, 0, 1);
        c.directionOf(1, 3, 0);
        c.poll(0);
        c.poll(0);
        c.poll(0);
        c.directionOf(0, 3, 3);
        c.start(-50, 0, 0, 0, 1);
        c.directionOf(0, 3, 0);
        c.poll(0);
        c.poll(0);
        c.poll(0);
        c.dropDirection(0, 3);
        c.directionOf(0, 3, 0);
        c.direction(1, 0, 0, 3);
        c.directionOf(3, 3, 0);
        c.poll(3);
        c.directionOf(3, 3, 1);
        c.searchOf(5, 4);
    }

    private static void searchOf(Calls c) {
        c.searchOf(-1, INVALID);
        c.searchOf(10, INVALID);
        c.searchOf(Integer.MAX_VALUE, INVALID);
        c.searchOf(Integer.MIN_VALUE, INVALID);
        c.searchOf(7, NOTHING);
        c.term(1, 1, 0, 0, 1);
        c.start(-45, 3, 0, 2, 1);
        c.poll(1);
        c.placeIs(-49, 3, 0, 8);
        c.accountsAre(1, 1, 2, 1);
        c.searchOf(8, 1);
        c.searchOf(9, 0);
        c.poll(-1);
        c.accountsAre(2, 1, 5, 1);
        c.poll(-1);
        c.poll(-1);
        c.poll(1);
        c.accountsAre(5, 2, 13, 1);
        c.run(60, 2);
        c.searchOf(9, 1);
        c.bound(0, -50, 49, 1);
        c.order(1, 0, 0);
        c.dropTerm(0, 1);
        c.term(1, 0, 1, 0, 1);
        c.searchOf(9, 1);
        c.keep(1);
        c.poll(3);
        c.searchOf(9, 0);
        c.restore(1);
        c.searchOf(9, 1);
        c.undo(3);
        c.searchOf(9, 0);
        c.searchOf(7, 3);
    }

    private static void leftAt(Calls c) {
        c.leftAt(0, 0, NOTHING);
        c.leftAt(-1, 0, INVALID);
        c.leftAt(0, -1, INVALID);
        c.leftAt(0, 2, INVALID);
        c.leftAt(Integer.MAX_VALUE, 0, NOTHING);
        c.leftAt(Integer.MIN_VALUE, 0, INVALID);
        c.variables(3, 2);
        c.term(1, 0, 0, 1, 1);
        c.start(7, 8, 40, 0, 1);
        c.run(8, 8);
        c.placeIs(7, 8, -39, 16);
        c.searchOf(8, 6);
        int[] left = {-23, -7, 9, 25, 33, 37};
        for (int i = 0; i < left.length; i++) {
            c.leftAt(i, 0, 7);
            c.leftAt(i, 1, 8);
            c.leftAt(i, 2, left[i]);
        }
        c.leftAt(6, 0, NOTHING);
        c.leftAt(6, 3, INVALID);
        c.poll(-1);
        c.leftAt(0, 2, -23);
        c.start(0, 0, 0, 0, 1);
        c.leftAt(0, 0, NOTHING);
    }

    private static void count(Calls c) {
        c.count(-1, INVALID);
        c.count(8, INVALID);
        c.count(9, INVALID);
        c.count(12, INVALID);
        c.count(19, INVALID);
        c.count(22, INVALID);
        c.count(30, INVALID);
        c.count(Integer.MIN_VALUE, INVALID);
        c.count(Integer.MAX_VALUE, INVALID);
        c.variables(3, 2);
        c.count(0, 3);
        c.count(12, -50);
        c.count(22, 50);
        c.count(13, INVALID);
        c.count(23, INVALID);
        c.bound(0, 1, 2, 0);
        c.bound(1, 3, 4, 0);
        c.bound(2, 5, 6, 0);
        c.count(10, 1);
        c.count(11, 3);
        c.count(12, 5);
        c.count(20, 2);
        c.count(21, 4);
        c.count(22, 6);
        c.term(1, 0, 0, 0, 1);
        c.count(1, 1);
        c.count(2, 6);
        c.order(2, 1, 0);
        c.count(3, 2);
        c.count(4, 1);
        c.count(5, 4);
        c.type('q', 1);
        c.count(6, 1);
        c.count(7, 0);
        c.keep(1);
        c.count(7, 1);
        c.variables(1, 3);
        c.count(10, -50);
        c.count(20, 50);
        c.count(11, INVALID);
        c.count(21, INVALID);
    }

    private static void looksChangeNothing(Calls c) {
        c.term(1, 2, 0, 0, 1);
        c.start(20, 5, 0, 3, 1);
        c.poll(1);
        c.value(1, 1, 0, 0, 1);
        c.trialOf(0, 0, 0);
        c.spans(1);
        c.stuck(0, 0);
        c.around(3, 0, -4);
        c.keep(1);
        c.placeIs(12, 5, 0, 16);
        c.accountsAre(1, 1, 2, 1);
        c.count(5, 3);
    }
}
