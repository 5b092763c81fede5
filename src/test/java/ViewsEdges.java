/** The boundary cases of promises 12 to 17: what there is. */
final class ViewsEdges {
    private static final int INVALID = Calls.INVALID;
    private static final int NOTHING = Calls.NOTHING;

    private ViewsEdges() {
    }

    // ---- 12: value

    static void promise12NumbersAtTheirEnds(Calls c) {
        c.variables(3, 2);
        c.term(1, 1, 0, 0, 1);
        c.term(2, 0, 1, 0, 2);
        c.term(3, 0, 0, 1, 3);
        c.value(50, 50, 50, 0, 300);
        c.value(-50, -50, -50, 0, -300);
    }

    static void promise12NumbersBeyondTheirEnds(Calls c) {
        c.variables(3, 2);
        c.valueInvalid(51, 0, 0, 0);
        c.valueInvalid(-51, 0, 0, 0);
        c.valueInvalid(0, 51, 0, 0);
        c.valueInvalid(0, -51, 0, 0);
        c.valueInvalid(0, 0, 51, 0);
        c.valueInvalid(0, 0, -51, 0);
    }

    static void promise12SimplerBeyondItsEnds(Calls c) {
        c.valueInvalid(0, 0, 0, -1);
        c.valueInvalid(0, 0, 0, 2);
    }

    static void promise12WildNumbers(Calls c) {
        c.variables(3, 2);
        for (int wild : Calls.WILD) {
            c.valueInvalid(wild, 0, 0, 0);
            c.valueInvalid(0, wild, 0, 0);
            c.valueInvalid(0, 0, wild, 0);
            c.valueInvalid(0, 0, 0, wild);
        }
    }

    static void promise12NumbersOfVariablesThatThereAreNot(Calls c) {
        c.valueInvalid(0, 0, 1, 0);
        c.variables(1, 2);
        c.valueInvalid(0, 1, 0, 0);
        c.valueInvalid(0, 0, -1, 1);
        c.value(50, 0, 0, 0, 0);
    }

    static void promise12NoTerms(Calls c) {
        c.value(50, -50, 0, 0, 0);
        c.value(50, -50, 0, 1, 0);
    }

    static void promise12GreatestValue(Calls c) {
        for (int i = 1; i <= 10; i++) {
            c.term(99, 4, 0, 0, i);
        }
        c.value(50, 0, 0, 0, 6187500000L);
        c.value(-50, 0, 0, 0, 6187500000L);
    }

    static void promise12LeastValue(Calls c) {
        for (int i = 1; i <= 10; i++) {
            c.term(99, 1, 3, 0, i);
        }
        c.value(50, -50, 0, 0, -6187500000L);
        c.value(-50, 50, 0, 0, -6187500000L);
        c.value(-50, -50, 0, 0, 6187500000L);
    }

    static void promise12PowerZeroOfZero(Calls c) {
        c.term(7, 0, 0, 0, 1);
        c.term(5, 0, 1, 0, 2);
        c.value(0, 0, 0, 0, 7);
        c.value(0, 1, 0, 0, 12);
    }

    static void promise12NegativeNumbers(Calls c) {
        c.term(1, 1, 0, 0, 1);
        c.term(10, 2, 0, 0, 2);
        c.term(1, 3, 0, 0, 3);
        c.term(10, 4, 0, 0, 4);
        c.value(-2, 0, 0, 0, -2 + 40 - 8 + 160);
    }

    static void promise12SimplerTakesPowersOfTwo(Calls c) {
        c.variables(3, 2);
        c.term(1, 0, 0, 0, 1);
        c.term(2, 0, 0, 1, 2);
        c.term(3, 2, 0, 0, 3);
        c.term(4, 0, 1, 1, 4);
        c.value(2, 3, 5, 1, 1 + 10 + 12 + 60);
        c.value(2, 3, 5, 0, 1 + 10 + 12 + 60);
    }

    static void promise12SimplerLeavesPowersOfThree(Calls c) {
        c.variables(3, 2);
        c.term(1, 3, 0, 0, 1);
        c.term(2, 1, 1, 1, 2);
        c.term(3, 2, 0, 1, 3);
        c.term(4, 0, 0, 4, 4);
        c.term(5, 1, 0, 0, 5);
        c.value(2, 3, 1, 1, 10);
        c.value(2, 3, 1, 0, 8 + 12 + 12 + 4 + 10);
    }

    static void promise12PlaceThatIsNotAllowed(Calls c) {
        c.term(1, 1, 0, 0, 1);
        c.bound(0, 1, 2, 0);
        c.value(0, 0, 0, 0, 0);
        c.value(-50, 0, 0, 0, -50);
    }

    static void promise12ChangesNothing(Calls c) {
        c.changesNothing(Calls::rich, d -> {
            d.value(0, 0, 0, 0, 6 + 7 + 8 + 9);
            d.valueInvalid(51, 0, 0, 0);
        });
    }

    // ---- 13: termOf

    static void promise13NegativeIndex(Calls c) {
        c.ones(1);
        c.termOf(-1, 0, INVALID);
    }

    static void promise13WhatAtItsEnds(Calls c) {
        c.variables(3, 2);
        c.term(-9, 1, 0, 2, 1);
        c.termOf(0, 0, -9);
        c.termOf(0, 1, 1);
        c.termOf(0, 2, 0);
        c.termOf(0, 3, 2);
    }

    static void promise13WhatBeyondItsEnds(Calls c) {
        c.ones(1);
        c.termOf(0, -1, INVALID);
        c.termOf(0, 4, INVALID);
    }

    static void promise13NoTerms(Calls c) {
        c.termOf(0, 0, NOTHING);
    }

    static void promise13IndexOfAsManyAsThereAre(Calls c) {
        c.ones(2);
        c.termOf(1, 0, 1);
        c.termOf(2, 0, NOTHING);
    }

    static void promise13TheTenthAndTheEleventh(Calls c) {
        c.ones(9);
        c.term(-9, 3, 1, 0, 10);
        c.termIs(9, -9, 3, 1, 0);
        c.termOf(10, 0, NOTHING);
        c.termOf(10, 3, NOTHING);
    }

    static void promise13TermThatWasDropped(Calls c) {
        c.ones(2);
        c.dropTerm(1, 1);
        c.termOf(1, 0, NOTHING);
    }

    static void promise13InvalidRatherThanNotFound(Calls c) {
        c.termOf(0, 4, INVALID);
        c.termOf(0, -1, INVALID);
        c.termOf(-1, 0, INVALID);
    }

    static void promise13PowersOfVariablesThatThereAreNot(Calls c) {
        c.variables(1, 2);
        c.term(3, 4, 0, 0, 1);
        c.termOf(0, 2, 0);
        c.termOf(0, 3, 0);
    }

    static void promise13WildNumbers(Calls c) {
        c.ones(10);
        for (int wild : Calls.WILD) {
            c.termOf(wild, 1, wild < 0 ? INVALID : NOTHING);
            c.termOf(0, wild, INVALID);
        }
    }

    static void promise13ChangesNothing(Calls c) {
        c.changesNothing(Calls::rich, d -> {
            d.termIs(0, 2, 2, 0, 0);
            d.termOf(10, 0, NOTHING);
            d.termOf(-1, 0, INVALID);
        });
    }

    // ---- 14: directionOf

    static void promise14NegativeIndex(Calls c) {
        c.directionOf(-1, 0, INVALID);
        c.directionOf(-1, 3, INVALID);
    }

    static void promise14WhatAtItsEnds(Calls c) {
        c.directionOf(1, 0, -1);
        c.directionOf(1, 3, 0);
    }

    static void promise14WhatBeyondItsEnds(Calls c) {
        c.directionOf(0, -1, INVALID);
        c.directionOf(0, 4, INVALID);
    }

    static void promise14NoDirections(Calls c) {
        c.noDirections();
        c.directionOf(0, 0, NOTHING);
        c.directionOf(0, 3, NOTHING);
    }

    static void promise14IndexOfAsManyAsThereAre(Calls c) {
        c.directionOf(3, 1, -1);
        c.directionOf(4, 1, NOTHING);
    }

    static void promise14TheEighthAndTheNinth(Calls c) {
        c.eightDirections();
        c.directionIs(7, -3, 3, 0);
        c.directionOf(7, 3, 0);
        c.directionOf(8, 0, NOTHING);
        c.directionOf(8, 3, NOTHING);
    }

    static void promise14InvalidRatherThanNotFound(Calls c) {
        c.directionOf(4, 4, INVALID);
        c.directionOf(4, -1, INVALID);
    }

    static void promise14NumbersOfVariablesThatThereAreNot(Calls c) {
        c.directionOf(0, 2, 0);
        c.variables(1, 2);
        c.directionOf(0, 1, 0);
        c.directionOf(0, 2, 0);
    }

    static void promise14WildNumbers(Calls c) {
        c.eightDirections();
        for (int wild : Calls.WILD) {
            c.directionOf(wild, 1, wild < 0 ? INVALID : NOTHING);
            c.directionOf(0, wild, INVALID);
        }
    }

    static void promise14NotTakenSoFar(Calls c) {
        for (int i = 0; i < 4; i++) {
            c.directionOf(i, 3, 0);
        }
    }

    static void promise14FailureTakesNone(Calls c) {
        c.poll(-1);
        promise14NotTakenSoFar(c);
    }

    static void promise14TheTakenOneAlone(Calls c) {
        c.term(1, 1, 0, 0, 1);
        c.term(1, 0, 1, 0, 2);
        c.order(0, 1, 0);
        c.poll(1);
        c.directionOf(1, 3, 1);
        c.directionOf(3, 3, 0);
    }

    static void promise14TakenInThisSearchAlone(Calls c) {
        c.term(1, 1, 0, 0, 1);
        c.poll(1);
        c.poll(1);
        c.directionOf(1, 3, 2);
        c.start(0, 0, 0, 2, 1);
        c.directionOf(1, 3, 0);
        c.poll(1);
        c.directionOf(1, 3, 1);
    }

    static void promise14TakenSinceItIsThere(Calls c) {
        c.term(1, 0, 1, 0, 1);
        c.poll(3);
        c.dropDirection(3, 3);
        c.direction(0, -1, 0, 3);
        c.directionOf(3, 3, 0);
        c.poll(3);
        c.directionOf(3, 3, 1);
    }

    static void promise14TakenSinceItIsThereAheadOfOthers(Calls c) {
        c.term(1, 1, 0, 0, 1);
        c.poll(1);
        c.dropDirection(1, 3);
        c.direction(-1, 0, 0, 3);
        c.directionOf(1, 3, 0);
        c.directionOf(3, 3, 0);
    }

    static void promise14TakenByRuns(Calls c) {
        c.term(1, 1, 0, 0, 1);
        c.run(3, 3);
        c.directionOf(1, 3, 3);
        c.directionOf(0, 3, 0);
    }

    static void promise14TakenComesBackByUndo(Calls c) {
        c.term(1, 1, 0, 0, 1);
        c.poll(1);
        c.dropDirection(1, 3);
        c.undo(2);
        c.directionOf(1, 3, 1);
        c.searchOf(7, 1);
        c.undo(1);
        c.directionOf(1, 3, 0);
    }

    static void promise14ChangesNothing(Calls c) {
        c.changesNothing(Calls::rich, d -> {
            d.directionIs(7, -1, -2, -3);
            d.directionOf(8, 3, NOTHING);
            d.directionOf(0, 4, INVALID);
        });
    }

    // ---- 15: searchOf

    static void promise15WhatBeyondItsEnds(Calls c) {
        c.searchOf(-1, INVALID);
        c.searchOf(10, INVALID);
    }

    static void promise15WildNumbers(Calls c) {
        for (int wild : Calls.WILD) {
            c.searchOf(wild, INVALID);
        }
    }

    static void promise15NumbersOfVariablesThatThereAreNot(Calls c) {
        c.start(5, 6, 0, 2, 1);
        c.searchOf(2, 0);
        c.variables(1, 2);
        c.start(7, 0, 0, 2, 1);
        c.searchOf(0, 7);
        c.searchOf(1, 0);
        c.searchOf(2, 0);
    }

    static void promise15PollsThatAreNotPossible(Calls c) {
        c.noDirections();
        c.poll(Calls.IMPOSSIBLE);
        c.run(5, Calls.IMPOSSIBLE);
        c.searchOf(4, 0);
    }

    static void promise15PollsWithoutTrials(Calls c) {
        c.bound(0, 0, 0, 1);
        c.bound(1, 0, 0, 1);
        c.poll(-1);
        c.searchOf(4, 1);
        c.searchOf(6, 0);
    }

    static void promise15NoSuccessSoFar(Calls c) {
        c.searchOf(7, NOTHING);
        c.poll(-1);
        c.searchOf(7, NOTHING);
    }

    static void promise15LatestIsTheFirstDirection(Calls c) {
        c.term(-1, 1, 0, 0, 1);
        c.poll(0);
        c.searchOf(7, 0);
    }

    static void promise15LatestWasDropped(Calls c) {
        c.term(-1, 1, 0, 0, 1);
        c.poll(0);
        c.dropDirection(0, 3);
        c.searchOf(7, NOTHING);
    }

    static void promise15LatestWasDroppedAndAddedAgain(Calls c) {
        c.term(1, 0, 1, 0, 1);
        c.poll(3);
        c.dropDirection(3, 3);
        c.direction(0, -1, 0, 3);
        c.searchOf(7, NOTHING);
    }

    static void promise15LatestWasDroppedButNotAnEarlierOne(Calls c) {
        c.term(1, 0, 1, 0, 1);
        c.poll(3);
        c.dropTerm(0, 1);
        c.term(1, 1, 0, 0, 1);
        c.poll(1);
        c.dropDirection(1, 3);
        c.searchOf(7, NOTHING);
        c.searchOf(5, 2);
    }

    /** What is dropped behind that must not come near it. */
    static void promise15LatestStaysDropped(Calls c) {
        c.term(1, 0, 1, 0, 1);
        c.poll(3);
        c.dropDirection(3, 3);
        c.dropDirection(0, 2);
        c.searchOf(7, NOTHING);
        c.dropDirection(1, 1);
        c.searchOf(7, NOTHING);
    }

    static void promise15LatestWithANumberThatIsLess(Calls c) {
        c.term(1, 0, 1, 0, 1);
        c.poll(3);
        c.dropDirection(0, 3);
        c.searchOf(7, 2);
        c.dropDirection(0, 2);
        c.dropDirection(0, 1);
        c.searchOf(7, 0);
    }

    static void promise15LatestComesBackByUndo(Calls c) {
        c.term(1, 0, 1, 0, 1);
        c.poll(3);
        c.dropDirection(3, 3);
        c.undo(2);
        c.searchOf(7, 3);
    }

    static void promise15SixBetterPlaces(Calls c) {
        c.term(1, 1, 0, 0, 1);
        c.start(50, 0, 0, 0, 1);
        for (int i = 1; i <= 6; i++) {
            c.poll(1);
            c.searchOf(8, i);
        }
    }

    static void promise15TheSeventhBetterPlace(Calls c) {
        c.term(1, 1, 0, 0, 1);
        c.start(50, 0, 0, 0, 1);
        c.run(7, 7);
        c.searchOf(5, 7);
        c.searchOf(8, 6);
    }

    static void promise15NoPollSoFar(Calls c) {
        c.searchOf(9, 0);
        c.start(0, 0, 0, 0, 1);
        c.searchOf(9, 0);
    }

    static void promise15FailureAtTheSizeTwo(Calls c) {
        c.start(0, 0, 0, 1, 1);
        c.poll(-1);
        c.searchOf(3, 1);
        c.searchOf(9, 0);
    }

    static void promise15FailureAtTheSizeOne(Calls c) {
        c.start(0, 0, 0, 0, 1);
        c.poll(-1);
        c.searchOf(9, 1);
    }

    static void promise15SuccessAtTheSizeOne(Calls c) {
        c.term(1, 2, 0, 0, 1);
        c.start(1, 0, 0, 0, 1);
        c.poll(1);
        c.searchOf(9, 0);
    }

    static void promise15SuccessBehindTheFailure(Calls c) {
        c.start(0, 0, 0, 0, 1);
        c.poll(-1);
        c.term(1, 1, 0, 0, 1);
        c.poll(1);
        c.searchOf(9, 0);
    }

    static void promise15WhateverWasDoneBehindIt(Calls c) {
        c.start(0, 0, 0, 0, 1);
        c.poll(-1);
        c.term(1, 1, 0, 0, 1);
        c.searchOf(9, 1);
        c.dropTerm(0, 1);
        c.bound(0, 5, 6, 0);
        c.searchOf(9, 1);
        c.direction(2, 2, 0, 4);
        c.dropDirection(0, 4);
        c.order(1, 1, 0);
        c.searchOf(9, 1);
        c.readOf("x", 1);
        c.keep(1);
        c.searchOf(9, 1);
        c.noDirections();
        c.poll(Calls.IMPOSSIBLE);
        c.searchOf(9, 1);
    }

    static void promise15NewSearchBehindTheFailure(Calls c) {
        c.start(0, 0, 0, 0, 1);
        c.poll(-1);
        c.start(0, 0, 0, 0, 1);
        c.searchOf(9, 0);
        c.poll(-1);
        c.variables(2, 2);
        c.searchOf(9, 0);
    }

    static void promise15ChangesNothing(Calls c) {
        c.changesNothing(Calls::rich, d -> {
            d.searchOf(3, d.meshes.searchOf(3));
            d.searchOf(10, INVALID);
        });
    }

    // ---- 16: leftAt

    static void promise16NegativeIndex(Calls c) {
        c.term(1, 1, 0, 0, 1);
        c.poll(1);
        c.leftAt(-1, 0, INVALID);
    }

    static void promise16VariablesThatThereAreNot(Calls c) {
        c.term(1, 1, 0, 0, 1);
        c.poll(1);
        c.leftAt(0, -1, INVALID);
        c.leftAt(0, 2, INVALID);
        c.variables(1, 2);
        c.leftAt(0, 1, INVALID);
        c.variables(3, 1);
        c.leftAt(0, 2, NOTHING);
        c.leftAt(0, 3, INVALID);
    }

    static void promise16TheLastVariable(Calls c) {
        c.term(1, 1, 0, 0, 1);
        c.start(7, -8, 0, 2, 1);
        c.poll(1);
        c.leftAt(0, 0, 7);
        c.leftAt(0, 1, -8);
    }

    static void promise16NoneIsKept(Calls c) {
        c.leftAt(0, 0, NOTHING);
        c.poll(-1);
        c.leftAt(0, 0, NOTHING);
    }

    static void promise16IndexOfAsManyAsAreKept(Calls c) {
        c.term(1, 1, 0, 0, 1);
        c.start(50, 0, 0, 0, 1);
        c.run(2, 2);
        c.leftAt(0, 0, 49);
        c.leftAt(1, 0, 50);
        c.leftAt(2, 0, NOTHING);
    }

    static void promise16TheSixthIsKept(Calls c) {
        c.term(1, 1, 0, 0, 1);
        c.start(50, 0, 0, 0, 1);
        c.run(6, 6);
        c.leftAt(5, 0, 50);
        c.leftAt(6, 0, NOTHING);
    }

    static void promise16TheSeventhDropsTheOldest(Calls c) {
        c.term(1, 1, 0, 0, 1);
        c.start(50, 0, 0, 0, 1);
        c.run(7, 7);
        int[] left = {3, 19, 35, 43, 47, 49};
        for (int i = 0; i < left.length; i++) {
            c.leftAt(i, 0, left[i]);
        }
        c.leftAt(6, 0, NOTHING);
    }

    static void promise16InvalidRatherThanNotFound(Calls c) {
        c.leftAt(0, 2, INVALID);
        c.leftAt(9, -1, INVALID);
    }

    static void promise16FailureLeavesNone(Calls c) {
        c.term(1, 2, 0, 0, 1);
        c.start(4, 0, 0, 2, 1);
        c.poll(1);
        c.poll(-1);
        c.leftAt(0, 0, 4);
        c.leftAt(1, 0, NOTHING);
    }

    static void promise16KeptAlsoWhereItIsNotAllowedAnyMore(Calls c) {
        c.term(1, 1, 0, 0, 1);
        c.poll(1);
        c.bound(0, -50, -4, 1);
        c.leftAt(0, 0, 0);
    }

    static void promise16WildNumbers(Calls c) {
        c.term(1, 1, 0, 0, 1);
        c.start(50, 0, 0, 0, 1);
        c.run(7, 7);
        for (int wild : Calls.WILD) {
            c.leftAt(wild, 0, wild < 0 ? INVALID : NOTHING);
            c.leftAt(0, wild, INVALID);
        }
    }

    static void promise16ChangesNothing(Calls c) {
        c.changesNothing(Calls::rich, d -> {
            d.leftAt(0, 3, INVALID);
            d.leftAt(6, 0, NOTHING);
        });
    }

    // ---- 17: count

    static void promise17WhatBelowZero(Calls c) {
        c.count(-1, INVALID);
    }

    static void promise17WhatBetweenSevenAndTen(Calls c) {
        c.count(7, 0);
        c.count(8, INVALID);
        c.count(9, INVALID);
        c.count(10, -50);
    }

    static void promise17LowerBoundsOfVariablesThatThereAreNot(Calls c) {
        c.count(11, -50);
        c.count(12, INVALID);
        c.variables(1, 2);
        c.count(10, -50);
        c.count(11, INVALID);
        c.variables(3, 1);
        c.count(12, -50);
        c.count(13, INVALID);
    }

    static void promise17UpperBoundsOfVariablesThatThereAreNot(Calls c) {
        c.count(21, 50);
        c.count(22, INVALID);
        c.variables(1, 2);
        c.count(20, 50);
        c.count(21, INVALID);
        c.variables(3, 1);
        c.count(22, 50);
        c.count(23, INVALID);
    }

    static void promise17WhatBetweenTheBounds(Calls c) {
        c.variables(3, 2);
        for (int what = 13; what < 20; what++) {
            c.count(what, INVALID);
        }
        c.count(20, 50);
        c.count(30, INVALID);
    }

    static void promise17WildNumbers(Calls c) {
        for (int wild : Calls.WILD) {
            c.count(wild, INVALID);
        }
    }

    static void promise17TermsFromNoneToTen(Calls c) {
        c.count(1, 0);
        c.ones(10);
        c.count(1, 10);
    }

    static void promise17DirectionsFromNoneToEight(Calls c) {
        c.eightDirections();
        c.count(2, 8);
        c.noDirections();
        c.count(2, 0);
    }

    static void promise17StatesFromNoneToFour(Calls c) {
        for (int i = 0; i < 4; i++) {
            c.count(5, i);
            c.order(0, 0, 0);
        }
        c.count(5, 4);
        c.order(0, 0, 0);
        c.count(5, 4);
    }

    static void promise17TextFromNoneToSixty(Calls c) {
        c.count(6, 0);
        for (int i = 1; i <= 60; i++) {
            c.type('x', i);
        }
        c.count(6, 60);
    }

    static void promise17SnapshotOrNone(Calls c) {
        c.count(7, 0);
        c.keep(0);
        c.count(7, 1);
        c.keep(0);
        c.restore(0);
        c.count(7, 1);
    }

    static void promise17ChangesNothing(Calls c) {
        c.changesNothing(Calls::rich, d -> {
            d.count(1, 10);
            d.count(8, INVALID);
        });
    }
}
