/** The boundary cases of promises 18 to 21: what would be. */
final class WouldBeEdges {
    private static final int INVALID = Calls.INVALID;
    private static final int IMPOSSIBLE = Calls.IMPOSSIBLE;
    private static final int NOTHING = Calls.NOTHING;

    private WouldBeEdges() {
    }

    // ---- 18: trialOf

    static void promise18NegativeIndex(Calls c) {
        c.trialOf(-1, 0, INVALID);
        c.trialOf(-1, 1, INVALID);
    }

    static void promise18WhatAtItsEnds(Calls c) {
        c.term(1, 1, 0, 0, 1);
        c.trialOf(1, 0, 1);
        c.trialOf(1, 1, 1);
        c.trialOf(0, 0, 0);
        c.trialOf(0, 1, 0);
    }

    static void promise18WhatBeyondItsEnds(Calls c) {
        c.trialOf(0, -1, INVALID);
        c.trialOf(0, 2, INVALID);
    }

    static void promise18WildNumbers(Calls c) {
        c.eightDirections();
        for (int wild : Calls.WILD) {
            c.trialOf(wild, 0, wild < 0 ? INVALID : NOTHING);
            c.trialOf(0, wild, INVALID);
        }
    }

    static void promise18InvalidRatherThanNotFound(Calls c) {
        c.noDirections();
        c.trialOf(0, 2, INVALID);
        c.trialOf(-1, 0, INVALID);
    }

    static void promise18NoDirections(Calls c) {
        c.noDirections();
        c.trialOf(0, 0, NOTHING);
        c.trialOf(0, 1, NOTHING);
    }

    static void promise18NoTrialIsAllowed(Calls c) {
        c.bound(0, -3, 3, 1);
        c.bound(1, -3, 3, 1);
        c.trialOf(0, 0, NOTHING);
        c.trialOf(0, 1, NOTHING);
    }

    static void promise18IndexOfAsManyAsThereAre(Calls c) {
        c.trialOf(3, 0, 3);
        c.trialOf(4, 0, NOTHING);
        c.trialOf(4, 1, NOTHING);
    }

    static void promise18TheEighthAndTheNinth(Calls c) {
        c.eightDirections();
        c.trialsAre(0, 1, 2, 3, 4, 5, 6, 7);
        c.trialOf(7, 1, 0);
        c.trialOf(8, 0, NOTHING);
    }

    static void promise18IndexOfAsManyAsAreAllowed(Calls c) {
        c.bound(0, 0, 50, 1);
        c.trialsAre(0, 2, 3);
        c.trialOf(3, 1, NOTHING);
    }

    static void promise18TrialsOnTheBounds(Calls c) {
        c.bound(0, -4, 4, 1);
        c.bound(1, -4, 4, 1);
        c.trialsAre(0, 1, 2, 3);
    }

    static void promise18TrialsBeyondTheBounds(Calls c) {
        c.bound(0, -3, 4, 1);
        c.bound(1, -4, 3, 1);
        c.trialsAre(0, 3);
    }

    static void promise18EqualIsNotBetter(Calls c) {
        c.trialOf(0, 1, 0);
        c.term(1, 2, 0, 0, 1);
        c.start(2, 0, 0, 2, 1);
        c.trialOf(1, 1, 0);
    }

    static void promise18LessByOneIsBetter(Calls c) {
        c.term(-1, 1, 0, 0, 1);
        c.start(0, 0, 0, 0, 1);
        c.trialOf(0, 1, 1);
        c.trialOf(1, 1, 0);
    }

    static void promise18GoesOnBehindTheFirstBetter(Calls c) {
        c.term(-1, 1, 0, 0, 1);
        c.trialOf(0, 1, 1);
        c.trialsAre(0, 1, 2, 3);
        c.order(0, 1, 0);
        c.trialsAre(0, 1, 2, 3);
    }

    static void promise18OrderByLatestWithoutSuccess(Calls c) {
        c.order(1, 0, 0);
        c.trialsAre(0, 1, 2, 3);
    }

    static void promise18OrderByLatestFirst(Calls c) {
        c.term(1, 0, 1, 0, 1);
        c.poll(3);
        c.trialsAre(0, 1, 2, 3);
        c.order(1, 0, 0);
        c.trialsAre(3, 0, 1, 2);
        c.trialOf(0, 1, 1);
        c.trialOf(1, 1, 0);
    }

    static void promise18OrderByLatestThatWasDropped(Calls c) {
        c.term(1, 0, 1, 0, 1);
        c.poll(3);
        c.order(1, 0, 0);
        c.dropDirection(3, 3);
        c.trialsAre(0, 1, 2);
        c.direction(0, -1, 0, 3);
        c.trialsAre(0, 1, 2, 3);
    }

    static void promise18OrderBySimplerEqualByNumber(Calls c) {
        c.term(1, 0, 2, 0, 1);
        c.order(2, 0, 0);
        c.trialsAre(0, 1, 2, 3);
        c.dropTerm(0, 1);
        c.term(-1, 0, 2, 0, 1);
        c.trialsAre(2, 3, 0, 1);
    }

    /** The order is that of the simpler function, what is better that of the whole one. */
    static void promise18OrderBySimplerBetterByAll(Calls c) {
        c.term(-1, 1, 0, 0, 1);
        c.term(1, 3, 0, 0, 2);
        c.order(2, 0, 0);
        c.trialsAre(0, 2, 3, 1);
        c.trialOf(0, 1, 0);
        c.trialOf(3, 1, 1);
    }

    static void promise18OfThePresentSize(Calls c) {
        c.bound(0, -8, 8, 1);
        c.bound(1, -7, 7, 1);
        c.trialsAre(0, 1, 2, 3);
        c.start(0, 0, 0, 3, 1);
        c.trialsAre(0, 1);
        c.start(0, 0, 0, 4, 1);
        c.trialsAre();
    }

    static void promise18PlaceIsNotAllowed(Calls c) {
        c.bound(0, 1, 4, 0);
        c.trialsAre(0);
        c.trialOf(0, 1, 0);
    }

    static void promise18ChangesNothing(Calls c) {
        c.changesNothing(Calls::rich, d -> {
            d.trialOf(0, 0, d.meshes.trialOf(0, 0));
            d.trialOf(8, 0, NOTHING);
            d.trialOf(-1, 0, INVALID);
        });
    }

    // ---- 19: spans

    static void promise19NoDirections(Calls c) {
        c.noDirections();
        c.spans(0);
        c.variables(1, 2);
        c.noDirections();
        c.spans(0);
        c.variables(3, 1);
        c.noDirections();
        c.spans(0);
    }

    static void promise19OneVariableOneSide(Calls c) {
        c.variables(1, 2);
        c.onlyDirections(1, 0, 0, 2, 0, 0, 3, 0, 0);
        c.spans(0);
        c.onlyDirections(-1, 0, 0, -2, 0, 0, -3, 0, 0);
        c.spans(0);
    }

    static void promise19OneVariableBothSides(Calls c) {
        c.variables(1, 2);
        c.onlyDirections(3, 0, 0, -1, 0, 0);
        c.spans(1);
    }

    static void promise19AsManyAsVariables(Calls c) {
        c.onlyDirections(1, 0, 0, 0, 1, 0);
        c.spans(0);
        c.onlyDirections(3, 1, 0, -3, -1, 0);
        c.spans(0);
        c.variables(3, 2);
        c.onlyDirections(1, 0, 0, 0, 1, 0, -1, -1, -1);
        c.spans(0);
    }

    static void promise19OneMoreThanVariables(Calls c) {
        c.onlyDirections(1, 0, 0, 0, 1, 0, -1, -1, 0);
        c.spans(1);
        c.variables(3, 2);
        c.onlyDirections(1, 0, 0, 0, 1, 0, 0, 0, 1, -1, -1, -1);
        c.spans(1);
    }

    /** All on one side of a line, two of them on the line. */
    static void promise19HalfPlane(Calls c) {
        c.onlyDirections(1, 0, 0, -1, 0, 0, 0, 1, 0);
        c.spans(0);
        c.onlyDirections(2, 1, 0, -2, -1, 0, 1, 1, 0, -1, 3, 0);
        c.spans(0);
        c.direction(3, 1, 0, 4);
        c.spans(1);
    }

    /** Whatever the numbers of the two on the line are, and whichever side the rest is on. */
    static void promise19HalfPlaneOfAnyNumbers(Calls c) {
        c.onlyDirections(-1, -1, 0, 0, -1, 0, 1, 0, 0, 1, 1, 0, 1, -1, 0);
        c.spans(0);
        c.onlyDirections(-1, -1, 0, 0, -1, 0, 1, 1, 0);
        c.spans(0);
        c.onlyDirections(0, 1, 0, 1, 1, 0, -1, -1, 0, -1, 0, 0);
        c.spans(0);
    }

    static void promise19JustBeyondTheHalfPlane(Calls c) {
        c.onlyDirections(3, 2, 0, -3, -1, 0, 0, 1, 0);
        c.spans(0);
        c.direction(1, 0, 0, 3);
        c.spans(1);
        c.onlyDirections(3, 2, 0, -2, -1, 0, -3, -1, 0);
        c.spans(0);
        c.onlyDirections(3, 2, 0, -2, -1, 0, -1, -1, 0);
        c.spans(1);
    }

    static void promise19OneLineOfTwoVariables(Calls c) {
        c.onlyDirections(1, 1, 0, -1, -1, 0, 2, 2, 0, -3, -3, 0);
        c.spans(0);
    }

    static void promise19OnePlaneOfThreeVariables(Calls c) {
        c.variables(3, 2);
        c.onlyDirections(1, 0, 0, -1, 0, 0, 0, 1, 0, 0, -1, 0);
        c.spans(0);
        c.onlyDirections(1, -1, 0, -1, 1, 0, 0, 1, -1, 0, -1, 1, 1, 0, -1, -1, 0, 1);
        c.spans(0);
    }

    static void promise19OneLineOfThreeVariables(Calls c) {
        c.variables(3, 2);
        c.onlyDirections(1, 2, 3, -1, -2, -3);
        c.spans(0);
        c.onlyDirections(1, 1, 1, -1, -1, -1, 2, 2, 2, -2, -2, -2);
        c.spans(0);
    }

    /** A plane that is spanned, and more on one side of it. */
    static void promise19HalfSpace(Calls c) {
        c.variables(3, 2);
        c.onlyDirections(1, 0, 0, -1, 0, 0, 0, 1, 0, 0, -1, 0, 2, 3, 1);
        c.spans(0);
        c.onlyDirections(1, 0, 0, -1, 0, 0, 0, 1, 0, 0, -1, 0, 2, 3, -1);
        c.spans(0);
        c.direction(-3, 0, 1, 5);
        c.spans(1);
    }

    /** A line and more, all between two planes that meet there. */
    static void promise19Wedge(Calls c) {
        c.variables(3, 2);
        c.onlyDirections(0, 0, 1, 0, 0, -1, 1, 0, 2, 0, 1, -3, 1, 1, 0);
        c.spans(0);
        c.direction(-1, -1, 3, 5);
        c.spans(1);
    }

    static void promise19PointedCone(Calls c) {
        c.variables(3, 2);
        c.onlyDirections(1, 1, 1, 1, -1, 1, -1, 1, 1, -1, -1, 1, 0, 0, 1);
        c.spans(0);
        c.direction(0, 0, -1, 5);
        c.spans(1);
    }

    static void promise19PointedConeTheOtherWay(Calls c) {
        c.variables(3, 2);
        c.onlyDirections(-1, -1, -1, 1, -1, -1, -1, 1, -1, 1, 1, -1);
        c.spans(0);
        c.direction(1, 1, 1, 4);
        c.spans(0);
        c.direction(-1, -1, 3, 5);
        c.spans(1);
    }

    /** The factors that make them 0 are not all of one sign. */
    static void promise19OneMoreThanVariablesOnOneSide(Calls c) {
        c.variables(3, 2);
        c.onlyDirections(3, -1, 2, 2, -3, 3, -2, -1, -2, -1, 1, 0);
        c.spans(0);
    }

    static void promise19DroppedOnesDoNotCount(Calls c) {
        c.spans(1);
        c.dropDirection(3, 3);
        c.spans(0);
        c.variables(3, 2);
        c.spans(1);
        c.dropDirection(5, 5);
        c.spans(0);
        c.dropDirection(2, 4);
        c.spans(0);
    }

    static void promise19EightDirections(Calls c) {
        c.variables(3, 2);
        c.onlyDirections(1, 0, 0, 0, 1, 0, -1, 1, 0, 1, 1, 1, -3, 2, 1, 2, 3, -3, 3, 0, 1, -2, 0, -3);
        c.spans(0);
        c.dropDirection(0, 7);
        c.direction(0, -1, 0, 7);
        c.spans(1);
    }

    static void promise19BoundsDoNotMatter(Calls c) {
        c.bound(0, 5, 5, 0);
        c.spans(1);
        c.start(50, 50, 0, 4, 0);
        c.spans(1);
    }

    static void promise19AsVariablesTell(Calls c) {
        c.onlyDirections(1, 0, 0);
        c.spans(0);
        c.variables(1, 2);
        c.spans(1);
        c.variables(3, 1);
        c.spans(1);
    }

    static void promise19ChangesNothing(Calls c) {
        c.changesNothing(Calls::rich, d -> d.spans(1));
    }

    // ---- 20: stuck

    static void promise20SizeAtItsEnds(Calls c) {
        c.term(1, 2, 0, 0, 1);
        c.start(1, 0, 0, 0, 1);
        c.stuck(0, 0);
        c.stuck(4, 1);
        c.start(-20, 0, 0, 0, 1);
        c.stuck(4, 0);
    }

    static void promise20SizeBeyondItsEnds(Calls c) {
        c.stuck(-1, INVALID);
        c.stuck(5, INVALID);
    }

    static void promise20WildNumbers(Calls c) {
        for (int wild : Calls.WILD) {
            c.stuck(wild, INVALID);
        }
    }

    static void promise20EachSizeIsAPowerOfTwo(Calls c) {
        c.term(1, 2, 0, 0, 1);
        c.start(8, 0, 0, 0, 1);
        c.stuck(3, 0);
        c.stuck(4, 1);
        c.start(4, 0, 0, 0, 1);
        c.stuck(2, 0);
        c.stuck(3, 1);
        c.start(2, 0, 0, 0, 1);
        c.stuck(1, 0);
        c.stuck(2, 1);
        c.start(1, 0, 0, 4, 1);
        c.stuck(0, 0);
        c.stuck(1, 1);
    }

    static void promise20PlaceIsNotAllowed(Calls c) {
        c.bound(0, 1, 50, 0);
        c.stuck(0, IMPOSSIBLE);
        c.stuck(4, IMPOSSIBLE);
    }

    static void promise20PlaceOnTheBounds(Calls c) {
        c.bound(0, 0, 50, 1);
        c.bound(1, -50, 0, 1);
        c.stuck(0, 1);
    }

    static void promise20InvalidRatherThanNotPossible(Calls c) {
        c.bound(0, 1, 50, 0);
        c.stuck(5, INVALID);
        c.stuck(-1, INVALID);
    }

    static void promise20NoDirections(Calls c) {
        c.term(1, 1, 0, 0, 1);
        c.stuck(0, 0);
        c.noDirections();
        c.stuck(0, 1);
    }

    static void promise20NoDirectionsAndPlaceNotAllowed(Calls c) {
        c.noDirections();
        c.bound(0, 1, 50, 0);
        c.stuck(0, IMPOSSIBLE);
    }

    static void promise20EqualIsNotBetter(Calls c) {
        c.stuck(0, 1);
        c.term(1, 2, 0, 0, 1);
        c.start(2, 0, 0, 0, 1);
        c.stuck(2, 1);
        c.stuck(1, 0);
    }

    static void promise20BetterTrialOnTheBound(Calls c) {
        c.term(1, 1, 0, 0, 1);
        c.bound(0, -8, 50, 1);
        c.stuck(3, 0);
        c.stuck(4, 1);
    }

    static void promise20BetterTrialBeyondTheBound(Calls c) {
        c.term(1, 1, 0, 0, 1);
        c.bound(0, -7, 50, 1);
        c.stuck(2, 0);
        c.stuck(3, 1);
    }

    static void promise20TheLastDirectionIsBetter(Calls c) {
        c.term(1, 0, 1, 0, 1);
        c.stuck(0, 0);
        c.dropDirection(3, 3);
        c.stuck(0, 1);
    }

    static void promise20NotOfThePresentSize(Calls c) {
        c.term(1, 2, 0, 0, 1);
        c.start(3, 0, 0, 4, 1);
        c.stuck(2, 0);
        c.stuck(3, 1);
        c.searchOf(3, 16);
        c.searchOf(4, 0);
    }

    static void promise20ChangesNothing(Calls c) {
        c.changesNothing(Calls::rich, d -> {
            d.stuck(0, d.meshes.stuck(0));
            d.stuck(4, d.meshes.stuck(4));
            d.stuck(5, INVALID);
        });
    }

    // ---- 21: around

    static void promise21ManyIsZero(Calls c) {
        c.term(1, 1, 0, 0, 1);
        c.start(7, -7, 0, 2, 1);
        c.aroundIs(0, 7, -7, 0);
    }

    static void promise21ManyAtItsMost(Calls c) {
        c.term(1, 1, 0, 0, 1);
        c.term(-1, 0, 1, 0, 2);
        c.aroundIs(3, -12, 12, 0);
    }

    static void promise21ManyBetween(Calls c) {
        c.term(1, 1, 0, 0, 1);
        c.term(-1, 0, 1, 0, 2);
        c.aroundIs(1, -4, 4, 0);
        c.aroundIs(2, -8, 8, 0);
    }

    static void promise21ManyBeyondItsEnds(Calls c) {
        c.around(-1, 0, INVALID);
        c.around(4, 0, INVALID);
    }

    static void promise21WhatBeyondItsEnds(Calls c) {
        c.around(0, -1, INVALID);
        c.around(0, 3, INVALID);
    }

    static void promise21WildNumbers(Calls c) {
        for (int wild : Calls.WILD) {
            c.around(wild, 0, INVALID);
            c.around(0, wild, INVALID);
        }
    }

    static void promise21NumbersOfVariablesThatThereAreNot(Calls c) {
        c.around(3, 2, 0);
        c.variables(1, 2);
        c.around(3, 0, -12);
        c.around(3, 1, 0);
        c.around(3, 2, 0);
    }

    static void promise21PlaceIsNotAllowed(Calls c) {
        c.bound(0, 1, 50, 0);
        c.around(0, 0, IMPOSSIBLE);
        c.around(3, 2, IMPOSSIBLE);
    }

    static void promise21PlaceOnTheBounds(Calls c) {
        c.bound(0, 0, 0, 1);
        c.bound(1, 0, 0, 1);
        c.aroundIs(3, 0, 0, 0);
    }

    static void promise21InvalidRatherThanNotPossible(Calls c) {
        c.bound(0, 1, 50, 0);
        c.around(4, 0, INVALID);
        c.around(0, 3, INVALID);
    }

    static void promise21ThePlaceItself(Calls c) {
        c.term(1, 2, 0, 0, 1);
        c.term(1, 0, 2, 0, 2);
        c.aroundIs(3, 0, 0, 0);
    }

    static void promise21EqualLeastNumberOfTheFirst(Calls c) {
        c.term(1, 0, 2, 0, 1);
        c.aroundIs(2, -8, 0, 0);
    }

    static void promise21EqualLeastNumberOfTheSecond(Calls c) {
        c.term(1, 2, 0, 0, 1);
        c.aroundIs(2, 0, -8, 0);
    }

    static void promise21EqualLeastNumberOfTheThird(Calls c) {
        c.variables(3, 2);
        c.term(1, 2, 0, 0, 1);
        c.term(1, 0, 2, 0, 2);
        c.aroundIs(2, 0, 0, -8);
    }

    static void promise21EqualByTheFirstRatherThanTheSecond(Calls c) {
        c.term(1, 1, 1, 0, 1);
        c.aroundIs(1, -4, 4, 0);
    }

    static void promise21EqualByTheSecondRatherThanTheThird(Calls c) {
        c.variables(3, 2);
        c.term(1, 0, 1, 1, 1);
        c.aroundIs(1, -4, -4, 4);
    }

    static void promise21AllEqual(Calls c) {
        c.variables(3, 2);
        c.aroundIs(3, -12, -12, -12);
    }

    static void promise21PlacesOnTheBounds(Calls c) {
        c.term(1, 1, 0, 0, 1);
        c.term(-1, 0, 1, 0, 2);
        c.bound(0, -8, 50, 1);
        c.bound(1, -50, 8, 1);
        c.aroundIs(3, -8, 8, 0);
    }

    static void promise21PlacesBeyondTheBounds(Calls c) {
        c.term(1, 1, 0, 0, 1);
        c.term(-1, 0, 1, 0, 2);
        c.bound(0, -7, 50, 1);
        c.bound(1, -50, 7, 1);
        c.aroundIs(3, -4, 4, 0);
    }

    static void promise21PlacesBeyondTheBoundsOfTheThird(Calls c) {
        c.variables(3, 2);
        c.term(1, 0, 0, 1, 1);
        c.bound(2, -11, 50, 1);
        c.aroundIs(3, -12, -12, -8);
    }

    static void promise21WholeSizesOfThePresentMesh(Calls c) {
        c.term(1, 2, 0, 0, 1);
        c.start(10, 0, 0, 2, 1);
        c.around(3, 0, -2);
        c.start(10, 0, 0, 3, 1);
        c.around(3, 0, 2);
        c.start(10, 0, 0, 0, 1);
        c.around(3, 0, 7);
        c.start(10, 0, 0, 4, 1);
        c.around(3, 0, -6);
    }

    static void promise21DirectionsDoNotMatter(Calls c) {
        c.term(1, 1, 1, 0, 1);
        c.noDirections();
        c.aroundIs(1, -4, 4, 0);
    }

    static void promise21GreatValues(Calls c) {
        for (int i = 1; i <= 10; i++) {
            c.term(99, 4, 0, 0, i);
        }
        c.start(50, 50, 0, 0, 1);
        c.aroundIs(0, 50, 50, 0);
        c.aroundIs(3, 47, 47, 0);
    }

    static void promise21ChangesNothing(Calls c) {
        c.changesNothing(Calls::rich, d -> {
            d.around(3, 0, d.meshes.around(3, 0));
            d.around(4, 0, INVALID);
        });
    }
}
