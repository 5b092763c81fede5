/** Promises 8 to 11: the search. */
final class SearchTest {
    private static final int INVALID = Calls.INVALID;
    private static final int IMPOSSIBLE = Calls.IMPOSSIBLE;
    private static final int NOTHING = Calls.NOTHING;

    private SearchTest() {
    }

    static void check(Due due) {
        start(new Calls(due, "promise 8"));
        startForgets(new Calls(due, "promise 8, accounts"));
        startOfFewerVariables(new Calls(due, "promise 8, fewer variables"));
        order(new Calls(due, "promise 9"));
        poll(new Calls(due, "promise 10"));
        pollImpossible(new Calls(due, "promise 10, not possible"));
        pollWithBounds(new Calls(due, "promise 10, bounds"));
        pollAll(new Calls(due, "promise 10, way 1"));
        pollLatestFirst(new Calls(due, "promise 10, order 1"));
        pollSimplerFirst(new Calls(due, "promise 10, order 2"));
        pollEqualValues(new Calls(due, "promise 10, equal values"));
        pollSizes(new Calls(due, "promise 10, sizes"));
        run(new Calls(due, "promise 11"));
        runImpossible(new Calls(due, "promise 11, not possible"));
        runOverValleys(new Calls(due, "promise 11, valleys"));
    }

    private static void start(Calls c) {
        c.start(51, 0, 0, 0, INVALID);
        c.start(-51, 0, 0, 0, INVALID);
        c.start(0, 51, 0, 0, INVALID);
        c.start(0, -51, 0, 0, INVALID);
        c.start(0, 0, 1, 0, INVALID);
        c.start(0, 0, 0, -1, INVALID);
        c.start(0, 0, 0, 5, INVALID);
        c.start(0, 0, 0, Integer.MIN_VALUE, INVALID);
        c.count(5, 0);
        c.start(50, -50, 0, 0, 1);
        c.placeIs(50, -50, 0, 1);
        c.start(1, 2, 0, 1, 1);
        c.searchOf(3, 2);
        c.start(1, 2, 0, 2, 1);
        c.searchOf(3, 4);
        c.start(1, 2, 0, 3, 1);
        c.searchOf(3, 8);
        c.start(1, 2, 0, 4, 1);
        c.placeIs(1, 2, 0, 16);
        c.count(5, 4);
        c.bound(0, 2, 5, 0);
        c.start(1, 0, 0, 0, 0);
        c.start(2, 0, 0, 0, 1);
        c.start(5, 0, 0, 0, 1);
        c.start(6, 0, 0, 0, 0);
        c.placeIs(6, 0, 0, 1);
    }

    private static void startForgets(Calls c) {
        c.term(1, 2, 0, 0, 1);
        c.order(1, 1, 0);
        c.start(20, 0, 0, 0, 1);
        c.poll(1);
        c.searchOf(8, 1);
        c.directionOf(1, 3, 1);
        c.accountsAre(1, 1, 4, 1);
        c.start(0, 0, 0, 0, 1);
        c.accountsAre(0, 0, 0, NOTHING);
        c.directionOf(1, 3, 0);
        c.searchOf(8, 0);
        c.leftAt(0, 0, NOTHING);
        c.poll(-1);
        c.searchOf(9, 1);
        c.start(0, 0, 0, 0, 1);
        c.searchOf(9, 0);
        c.count(1, 1);
        c.count(3, 1);
        c.count(4, 1);
        c.trialsAre(0, 1, 2, 3);
    }

    private static void startOfFewerVariables(Calls c) {
        c.variables(1, 2);
        c.start(1, 1, 0, 0, INVALID);
        c.start(1, 0, 1, 0, INVALID);
        c.start(1, 0, 0, 0, 1);
        c.variables(3, 1);
        c.start(1, 1, 51, 0, INVALID);
        c.start(1, 1, -51, 0, INVALID);
        c.start(1, 2, -50, 0, 1);
        c.placeIs(1, 2, -50, 1);
    }

    private static void order(Calls c) {
        c.order(-1, 0, INVALID);
        c.order(3, 0, INVALID);
        c.order(0, -1, INVALID);
        c.order(0, 2, INVALID);
        c.order(Integer.MAX_VALUE, 0, INVALID);
        c.count(5, 0);
        c.order(2, 1, 0);
        c.count(3, 2);
        c.count(4, 1);
        c.order(1, 0, 21);
        c.count(3, 1);
        c.count(4, 0);
        c.order(0, 1, 10);
        c.order(0, 1, 1);
        c.count(5, 4);
    }

    /** The document's search: one variable's square falls to 5, the other's to 0. */
    private static void poll(Calls c) {
        c.term(1, 2, 0, 0, 1);
        c.term(-10, 1, 0, 0, 2);
        c.term(2, 0, 2, 0, 3);
        c.poll(0);
        c.placeIs(4, 0, 0, 8);
        c.accountsAre(1, 1, 1, 0);
        c.directionOf(0, 3, 1);
        c.leftAt(0, 0, 0);
        c.searchOf(9, 0);
        c.poll(-1);
        c.placeIs(4, 0, 0, 4);
        c.accountsAre(2, 1, 5, 0);
        c.poll(-1);
        c.placeIs(4, 0, 0, 2);
        c.poll(-1);
        c.placeIs(4, 0, 0, 1);
        c.searchOf(9, 0);
        c.poll(0);
        c.placeIs(5, 0, 0, 2);
        c.poll(-1);
        c.searchOf(9, 0);
        c.poll(-1);
        c.searchOf(9, 1);
        c.placeIs(5, 0, 0, 1);
        c.accountsAre(7, 2, 22, 0);
        c.directionOf(0, 3, 2);
        c.leftAt(0, 0, 4);
        c.leftAt(1, 0, 0);
        c.term(99, 1, 0, 0, 4);
        c.searchOf(9, 1);
        c.poll(1);
        c.searchOf(9, 0);
        c.count(5, 4);
    }

    private static void pollImpossible(Calls c) {
        c.bound(1, 1, 9, 0);
        c.poll(IMPOSSIBLE);
        c.count(5, 1);
        c.searchOf(4, 0);
        c.bound(1, 0, 9, 1);
        c.dropDirection(0, 3);
        c.dropDirection(0, 2);
        c.dropDirection(0, 1);
        c.poll(-1);
        c.dropDirection(0, 0);
        c.poll(IMPOSSIBLE);
        c.searchOf(4, 1);
    }

    /** Trials beyond the bounds are not looked at. */
    private static void pollWithBounds(Calls c) {
        c.term(-1, 1, 0, 0, 1);
        c.bound(0, -50, 3, 1);
        c.bound(1, 0, 4, 1);
        c.poll(-1);
        c.accountsAre(1, 0, 2, NOTHING);
        c.placeIs(0, 0, 0, 2);
        c.poll(0);
        c.placeIs(2, 0, 0, 4);
        c.bound(0, 2, 2, 1);
        c.bound(1, 0, 0, 1);
        c.poll(-1);
        c.accountsAre(3, 1, 3, 0);
        c.poll(-1);
        c.poll(-1);
        c.searchOf(9, 1);
        c.searchOf(6, 3);
    }

    private static void pollAll(Calls c) {
        c.term(1, 1, 0, 0, 1);
        c.term(2, 0, 1, 0, 2);
        c.order(0, 1, 0);
        c.poll(3);
        c.accountsAre(1, 1, 4, 3);
        c.placeIs(0, -4, 0, 8);
        c.order(0, 0, 1);
        c.poll(1);
        c.accountsAre(2, 2, 6, 1);
        c.placeIs(-8, -4, 0, 16);
        c.leftAt(0, 0, 0);
        c.leftAt(0, 1, -4);
        c.leftAt(1, 0, 0);
        c.leftAt(1, 1, 0);
    }

    private static void pollLatestFirst(Calls c) {
        c.term(1, 1, 0, 0, 1);
        c.term(1, 0, 1, 0, 2);
        c.order(1, 0, 0);
        c.dropDirection(1, 3);
        c.direction(-1, 0, 0, 3);
        c.trialsAre(0, 1, 2, 3);
        c.start(0, 0, 0, 0, 1);
        c.poll(2);
        c.trialsAre(2, 0, 1, 3);
        c.poll(2);
        c.accountsAre(2, 2, 4, 2);
        c.dropDirection(2, 3);
        c.trialsAre(0, 1, 2);
        c.poll(2);
        c.trialsAre(2, 0, 1);
        c.dropDirection(0, 2);
        c.trialsAre(1, 0);
        c.direction(0, -1, 0, 2);
        c.trialsAre(1, 0, 2);
        c.bound(0, -4, 50, 1);
        c.trialsAre(0, 2);
        c.order(0, 0, 10);
        c.bound(0, -50, 50, 1);
        c.trialsAre(0, 1, 2);
    }

    private static void pollSimplerFirst(Calls c) {
        c.term(1, 3, 0, 0, 1);
        c.term(-2, 1, 0, 0, 2);
        c.term(-1, 0, 1, 0, 3);
        c.order(2, 0, 0);
        c.start(0, 0, 0, 0, 1);
        c.trialsAre(0, 2, 3, 1);
        c.trialOf(0, 1, 1);
        c.trialOf(1, 1, 1);
        c.trialOf(2, 1, 0);
        c.trialOf(3, 1, 0);
        c.start(0, 0, 0, 1, 1);
        c.trialOf(0, 1, 0);
        c.poll(2);
        c.accountsAre(1, 1, 2, 2);
        c.placeIs(0, 2, 0, 4);
        c.order(2, 1, 20);
        c.poll(1);
        c.accountsAre(2, 2, 6, 1);
    }

    /** Of several with the least value the first in the order is taken. */
    private static void pollEqualValues(Calls c) {
        c.term(-1, 2, 0, 0, 1);
        c.term(-1, 0, 2, 0, 2);
        c.order(0, 1, 0);
        c.start(0, 0, 0, 0, 1);
        c.poll(0);
        c.start(0, 0, 0, 0, 1);
        c.dropTerm(0, -1);
        c.poll(2);
        c.order(1, 1, 1);
        c.term(1, 0, 2, 0, 2);
        c.trialsAre(2, 0, 1, 3);
        c.term(-1, 2, 0, 0, 3);
        c.poll(0);
        c.dropTerm(2, -1);
        c.dropTerm(1, 1);
        c.dropTerm(0, -1);
        c.poll(-1);
        c.order(2, 1, 11);
        c.trialsAre(0, 1, 2, 3);
    }

    private static void pollSizes(Calls c) {
        c.variables(1, 2);
        c.term(1, 1, 0, 0, 1);
        c.start(50, 0, 0, 0, 1);
        c.poll(1);
        c.placeIs(49, 0, 0, 2);
        c.poll(1);
        c.placeIs(47, 0, 0, 4);
        c.poll(1);
        c.placeIs(43, 0, 0, 8);
        c.poll(1);
        c.placeIs(35, 0, 0, 16);
        c.poll(1);
        c.placeIs(19, 0, 0, 16);
        c.poll(1);
        c.placeIs(3, 0, 0, 16);
        c.poll(1);
        c.placeIs(-13, 0, 0, 16);
        c.searchOf(8, 6);
        c.leftAt(0, 0, 3);
        c.leftAt(5, 0, 49);
        c.leftAt(6, 0, NOTHING);
        c.poll(1);
        c.poll(1);
        c.placeIs(-45, 0, 0, 16);
        c.poll(-1);
        c.placeIs(-45, 0, 0, 8);
        c.poll(-1);
        c.poll(1);
        c.placeIs(-49, 0, 0, 8);
        c.directionOf(1, 3, 10);
    }

    private static void run(Calls c) {
        c.run(0, INVALID);
        c.run(61, INVALID);
        c.run(-1, INVALID);
        c.run(Integer.MAX_VALUE, INVALID);
        c.run(60, 3);
        c.searchOf(9, 1);
        c.placeIs(0, 0, 0, 1);
        c.accountsAre(3, 0, 12, NOTHING);
        c.count(5, 1);
        c.run(60, 1);
        c.searchOf(4, 4);
        c.count(5, 2);
        c.term(1, 2, 0, 0, 1);
        c.start(17, 0, 0, 1, 1);
        c.run(1, 1);
        c.placeIs(15, 0, 0, 4);
        c.run(2, 2);
        c.placeIs(3, 0, 0, 16);
        c.searchOf(4, 3);
        c.run(60, 9);
        c.placeIs(0, 0, 0, 1);
        c.undo(3);
        c.placeIs(3, 0, 0, 16);
        c.run(8, 8);
        c.searchOf(9, 0);
        c.run(60, 1);
        c.searchOf(9, 1);
    }

    private static void runImpossible(Calls c) {
        c.bound(0, 1, 2, 0);
        c.run(5, IMPOSSIBLE);
        c.run(0, INVALID);
        c.count(5, 1);
        c.bound(0, 0, 2, 1);
        c.dropDirection(0, 3);
        c.dropDirection(0, 2);
        c.dropDirection(0, 1);
        c.dropDirection(0, 0);
        c.run(5, IMPOSSIBLE);
        c.run(61, INVALID);
        c.searchOf(4, 0);
    }

    /** The function has two valleys: the search goes to the lower side of one, then over to the other. */
    private static void runOverValleys(Calls c) {
        c.variables(1, 2);
        c.dropDirection(0, 1);
        c.direction(3, 0, 0, 1);
        c.term(1, 4, 0, 0, 1);
        c.term(-99, 2, 0, 0, 2);
        c.start(50, 0, 0, 0, 1);
        c.run(60, 15);
        c.searchOf(9, 1);
        c.placeIs(7, 0, 0, 1);
        c.accountsAre(15, 8, 22, 1);
        c.directionOf(0, 3, 7);
        c.directionOf(1, 3, 1);
    }
}
