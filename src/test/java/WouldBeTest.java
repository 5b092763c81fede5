/** Promises 18 to 21: what would be. */
final class WouldBeTest {
    private static final int INVALID = Calls.INVALID;
    private static final int IMPOSSIBLE = Calls.IMPOSSIBLE;
    private static final int NOTHING = Calls.NOTHING;

    private WouldBeTest() {
    }

    static void check(Due due) {
        trialOf(new Calls(due, "promise 18"));
        trialOfPlaceThatIsNotAllowed(new Calls(due, "promise 18, place not allowed"));
        spansOfOne(new Calls(due, "promise 19, one variable"));
        spansOfTwo(new Calls(due, "promise 19, two variables"));
        spansOfThree(new Calls(due, "promise 19, three variables"));
        spansOfPlanes(new Calls(due, "promise 19, planes and half-spaces"));
        stuck(new Calls(due, "promise 20"));
        around(new Calls(due, "promise 21"));
        aroundOfThree(new Calls(due, "promise 21, three variables"));
        aroundWithinBounds(new Calls(due, "promise 21, bounds"));
    }

    private static void trialOf(Calls c) {
        c.trialOf(-1, 0, INVALID);
        c.trialOf(0, -1, INVALID);
        c.trialOf(0, 2, INVALID);
        c.trialOf(4, 0, NOTHING);
        c.trialOf(4, 2, INVALID);
        c.trialOf(Integer.MAX_VALUE, 1, NOTHING);
        c.trialOf(Integer.MIN_VALUE, 1, INVALID);
        c.term(1, 1, 0, 0, 1);
        c.trialOf(0, 1, 0);
        c.trialOf(1, 1, 1);
        c.trialOf(2, 1, 0);
        c.trialsAre(0, 1, 2, 3);
        c.bound(0, 0, 50, 1);
        c.trialsAre(0, 2, 3);
        c.bound(0, -3, 3, 1);
        c.trialsAre(2, 3);
        c.trialOf(0, 1, 0);
        c.start(0, 0, 0, 1, 1);
        c.trialsAre(0, 1, 2, 3);
        c.order(2, 0, 0);
        c.trialsAre(1, 2, 3, 0);
        c.dropDirection(3, 3);
        c.dropDirection(2, 2);
        c.dropDirection(1, 1);
        c.dropDirection(0, 0);
        c.trialOf(0, 0, NOTHING);
    }

    private static void trialOfPlaceThatIsNotAllowed(Calls c) {
        c.term(1, 1, 0, 0, 1);
        c.bound(0, 2, 5, 0);
        c.bound(1, -50, 3, 0);
        c.trialsAre(0);
        c.trialOf(0, 1, 0);
        c.dropTerm(0, 1);
        c.term(-1, 1, 0, 0, 1);
        c.trialOf(0, 1, 1);
    }

    private static void spansOfOne(Calls c) {
        c.variables(1, 2);
        c.spans(1);
        c.dropDirection(0, 1);
        c.spans(0);
        c.direction(-2, 0, 0, 1);
        c.spans(0);
        c.direction(3, 0, 0, 2);
        c.spans(1);
        c.dropDirection(0, 2);
        c.spans(1);
        c.dropDirection(0, 1);
        c.spans(0);
        c.dropDirection(0, 0);
        c.spans(0);
    }

    private static void spansOfTwo(Calls c) {
        c.spans(1);
        c.dropDirection(1, 3);
        c.spans(0);
        c.direction(-1, -1, 0, 3);
        c.spans(1);
        c.dropDirection(2, 3);
        c.spans(1);
        c.dropDirection(1, 2);
        c.spans(0);
        c.direction(-3, 3, 0, 2);
        c.spans(1);
        c.dropDirection(0, 2);
        c.direction(1, 1, 0, 2);
        c.spans(0);
        c.direction(3, -2, 0, 3);
        c.spans(1);
        c.dropDirection(3, 3);
        c.direction(3, 3, 0, 3);
        c.spans(0);
        c.variables(2, 2);
        c.dropDirection(3, 3);
        c.dropDirection(2, 2);
        c.spans(0);
        c.direction(2, 0, 0, 2);
        c.spans(0);
        c.dropDirection(0, 2);
        c.dropDirection(0, 1);
        c.spans(0);
        c.dropDirection(0, 0);
        c.spans(0);
        c.direction(3, 1, 0, 0);
        c.direction(-3, -1, 0, 1);
        c.direction(3, 2, 0, 2);
        c.spans(0);
        c.direction(0, -1, 0, 3);
        c.spans(1);
    }

    private static void spansOfThree(Calls c) {
        c.variables(3, 2);
        c.spans(1);
        c.dropDirection(5, 5);
        c.spans(0);
        c.direction(-1, -1, -1, 5);
        c.spans(1);
        c.dropDirection(3, 5);
        c.spans(1);
        c.dropDirection(1, 4);
        c.spans(1);
        c.dropDirection(0, 3);
        c.spans(0);
        c.direction(1, 1, 0, 3);
        c.spans(0);
        c.direction(1, 0, -1, 4);
        c.spans(1);
        c.dropDirection(3, 4);
        c.spans(1);
        for (int i = 3; i >= 0; i--) {
            c.dropDirection(i, i);
        }
        c.spans(0);
        c.direction(1, 0, 0, 0);
        c.spans(0);
        c.direction(-1, 0, 0, 1);
        c.spans(0);
        c.direction(0, 1, 0, 2);
        c.direction(0, -1, 0, 3);
        c.spans(0);
        c.direction(1, 2, 0, 4);
        c.spans(0);
        c.direction(3, 2, 1, 5);
        c.spans(0);
        c.direction(3, 2, -1, 6);
        c.spans(1);
        c.dropDirection(1, 6);
        c.spans(0);
    }

    /** Only these directions, each told by three numbers; three variables. */
    private static void spansOfThese(Calls c, int want, int... steps) {
        c.meshes.variables(3);
        for (int i = 5; i >= 0; i--) {
            c.meshes.dropDirection(i);
        }
        for (int i = 0; i + 2 < steps.length; i += 3) {
            c.direction(steps[i], steps[i + 1], steps[i + 2], i / 3);
        }
        c.spans(want);
    }

    private static void spansOfPlanes(Calls c) {
        spansOfThese(c, 1, 1, 1, 1, -1, -1, 1, -1, 1, -1, 1, -1, -1);
        spansOfThese(c, 0, 1, 1, 1, -1, -1, 1, -1, 1, -1);
        spansOfThese(c, 0, 1, 1, 1, -1, -1, 1, -1, 1, -1, 1, 1, -1);
        spansOfThese(c, 0, 1, 0, 1, -1, 0, 1, 0, 1, 1, 0, -1, 1);
        spansOfThese(c, 0, 1, 0, -1, -1, 0, -1, 0, 1, -1, 0, -1, -1);
        spansOfThese(c, 0, 1, 0, 0, -1, 0, 0, 0, 1, 0, 0, -1, 0, 1, 1, 2);
        spansOfThese(c, 0, 1, 0, 0, -1, 0, 0, 0, 1, 0, 0, -1, 0, 1, 1, -2);
        spansOfThese(c, 1, 1, 0, 0, -1, 0, 0, 0, 1, 0, 0, -1, 0, 1, 1, -2, 0, 0, 3);
        spansOfThese(c, 0, 1, 1, 0, -1, -1, 0, 1, -1, 0, -1, 1, 0, 2, 1, 0, 3, 1, 0);
        spansOfThese(c, 0, 1, 2, -3, -2, -1, 3, 1, -1, 0, -3, 3, 0, 2, -2, 0, 3, -1, -2);
        spansOfThese(c, 0, 3, 2, 1, -3, -2, -1, 2, 2, 1, -1, -1, -1, 1, 2, 2);
        spansOfThese(c, 1, 3, 2, 1, -3, -2, -1, 1, 0, 0, 0, 1, 0, -1, -1, 0);
        spansOfThese(c, 0, 3, 3, 1, -1, 3, 2, 0, -1, 0);
    }

    private static void stuck(Calls c) {
        c.stuck(-1, INVALID);
        c.stuck(5, INVALID);
        c.stuck(Integer.MIN_VALUE, INVALID);
        c.stuck(0, 1);
        c.term(1, 2, 0, 0, 1);
        c.start(3, 0, 0, 4, 1);
        c.stuck(0, 0);
        c.stuck(1, 0);
        c.stuck(2, 0);
        c.stuck(3, 1);
        c.stuck(4, 1);
        c.bound(0, 3, 9, 1);
        c.stuck(0, 1);
        c.bound(0, 4, 9, 0);
        c.stuck(0, IMPOSSIBLE);
        c.stuck(5, INVALID);
        c.bound(0, 0, 9, 1);
        c.stuck(1, 0);
        c.stuck(2, 1);
        c.dropDirection(1, 3);
        c.stuck(0, 1);
        c.dropDirection(0, 2);
        c.dropDirection(0, 1);
        c.dropDirection(0, 0);
        c.stuck(0, 1);
        c.bound(0, 4, 9, 0);
        c.stuck(0, IMPOSSIBLE);
    }

    private static void around(Calls c) {
        c.around(-1, 0, INVALID);
        c.around(4, 0, INVALID);
        c.around(0, -1, INVALID);
        c.around(0, 3, INVALID);
        c.around(Integer.MAX_VALUE, 0, INVALID);
        c.around(0, Integer.MIN_VALUE, INVALID);
        c.aroundIs(0, 0, 0, 0);
        c.aroundIs(1, -4, -4, 0);
        c.term(1, 2, 0, 0, 1);
        c.term(-10, 1, 0, 0, 2);
        c.term(2, 0, 2, 0, 3);
        c.aroundIs(0, 0, 0, 0);
        c.aroundIs(1, 4, 0, 0);
        c.start(0, 0, 0, 0, 1);
        c.aroundIs(1, 1, 0, 0);
        c.aroundIs(3, 3, 0, 0);
        c.start(2, 1, 0, 1, 1);
        c.aroundIs(1, 4, -1, 0);
        c.aroundIs(2, 4, -1, 0);
        c.bound(0, 3, 50, 0);
        c.around(1, 0, IMPOSSIBLE);
        c.around(4, 0, INVALID);
        c.variables(1, 2);
        c.term(-1, 1, 0, 0, 1);
        c.start(-50, 0, 0, 4, 1);
        c.aroundIs(3, -2, 0, 0);
    }

    private static void aroundOfThree(Calls c) {
        c.variables(3, 2);
        c.term(1, 1, 1, 1, 1);
        c.start(0, 0, 0, 0, 1);
        c.aroundIs(2, -2, -2, -2);
        c.aroundIs(3, -3, -3, -3);
        c.term(99, 2, 0, 0, 2);
        c.aroundIs(2, 0, -2, -2);
        c.term(99, 0, 2, 0, 3);
        c.aroundIs(2, 0, 0, -2);
        c.term(99, 0, 0, 1, 4);
        c.term(99, 0, 0, 4, 5);
        c.aroundIs(2, 0, 0, -1);
        c.bound(2, 1, 1, 0);
        c.around(2, 0, IMPOSSIBLE);
        c.bound(2, 0, 1, 1);
        c.aroundIs(2, 0, 0, 0);
        c.bound(1, 1, 1, 0);
        c.stuck(0, IMPOSSIBLE);
        c.bound(1, 0, 0, 1);
        c.aroundIs(3, 0, 0, 0);
    }

    private static void aroundWithinBounds(Calls c) {
        c.term(-1, 1, 0, 0, 1);
        c.term(1, 0, 1, 0, 2);
        c.bound(0, -3, 7, 1);
        c.bound(1, -8, 3, 1);
        c.aroundIs(1, 4, -4, 0);
        c.aroundIs(2, 4, -8, 0);
        c.aroundIs(3, 4, -8, 0);
        c.bound(0, 0, 0, 1);
        c.bound(1, 0, 0, 1);
        c.aroundIs(3, 0, 0, 0);
    }
}
