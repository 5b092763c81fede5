import java.util.function.Consumer;

/** The boundary cases of promises 22 to 24: snapshot and undo. */
final class StatesEdges {
    private static final int INVALID = Calls.INVALID;
    private static final int IMPOSSIBLE = Calls.IMPOSSIBLE;
    private static final int LIMIT = Calls.LIMIT;
    private static final int NOTHING = Calls.NOTHING;

    private StatesEdges() {
    }

    // ---- 22: keep

    static void promise22NoTerms(Calls c) {
        c.keep(0);
        c.count(7, 1);
    }

    static void promise22TenTerms(Calls c) {
        c.ones(10);
        c.keep(10);
    }

    static void promise22IsNoChange(Calls c) {
        c.keep(0);
        c.count(5, 0);
        c.undo(IMPOSSIBLE);
    }

    static void promise22IsNoChangeOfAFullHistory(Calls c) {
        for (int i = 1; i <= 4; i++) {
            c.term(i, 0, 0, 0, i);
        }
        c.keep(4);
        c.keep(4);
        c.undo(3);
        c.undo(2);
        c.undo(1);
        c.undo(0);
        c.count(1, 0);
    }

    static void promise22InPlaceOfTheOneThatWas(Calls c) {
        c.term(3, 1, 0, 0, 1);
        c.keep(1);
        c.term(4, 0, 1, 0, 2);
        c.keep(2);
        c.dropTerm(0, 3);
        c.dropTerm(0, 4);
        c.restore(2);
        c.termIs(0, 3, 1, 0, 0);
        c.termIs(1, 4, 0, 1, 0);
        c.undo(3);
        c.restore(2);
    }

    static void promise22FewerTermsInPlaceOfMore(Calls c) {
        c.ones(10);
        c.keep(10);
        c.variables(1, 2);
        c.keep(0);
        c.ones(3);
        c.restore(0);
        c.count(0, 1);
        c.count(1, 0);
    }

    static void promise22LaterChangesStayOut(Calls c) {
        c.term(3, 1, 0, 0, 1);
        c.keep(1);
        c.poll(1);
        c.bound(0, -9, 9, 1);
        c.dropDirection(0, 3);
        c.order(1, 1, 0);
        c.restore(1);
        c.placeIs(0, 0, 0, 4);
        c.accountsAre(0, 0, 0, NOTHING);
        c.count(10, -50);
        c.count(2, 4);
        c.directionIs(0, 1, 0, 0);
        c.count(3, 0);
        c.count(4, 0);
    }

    static void promise22OfAPlaceThatIsNotAllowed(Calls c) {
        c.bound(0, 1, 2, 0);
        c.keep(0);
        c.bound(0, -2, 2, 1);
        c.restore(0);
        c.poll(IMPOSSIBLE);
    }

    // ---- 23: restore

    static void promise23NoSnapshot(Calls c) {
        c.restore(IMPOSSIBLE);
        c.count(5, 0);
    }

    static void promise23NoSnapshotChangesNothing(Calls c) {
        c.changesNothing(d -> {
            d.term(3, 1, 0, 0, 1);
            d.write("5y");
            d.poll(1);
        }, d -> d.restore(IMPOSSIBLE));
    }

    static void promise23TheSnapshotStays(Calls c) {
        c.term(3, 1, 0, 0, 1);
        c.keep(1);
        for (int i = 0; i < 3; i++) {
            c.dropTerm(0, 3);
            c.restore(1);
            c.termIs(0, 3, 1, 0, 0);
            c.count(7, 1);
        }
    }

    /** A change behind a restore must not reach into the snapshot. */
    static void promise23ChangesBehindItStayOut(Calls c) {
        c.term(3, 1, 0, 0, 1);
        c.keep(1);
        c.restore(1);
        c.poll(1);
        c.term(4, 1, 0, 0, 2);
        c.dropDirection(1, 3);
        c.restore(1);
        c.termOf(1, 0, NOTHING);
        c.accountsAre(0, 0, 0, NOTHING);
        c.directionIs(1, -1, 0, 0);
    }

    static void promise23IsAChange(Calls c) {
        c.keep(0);
        c.term(3, 1, 0, 0, 1);
        c.restore(0);
        c.count(5, 2);
        c.undo(1);
        c.termIs(0, 3, 1, 0, 0);
    }

    static void promise23IsAChangeThoughAllIsTheSame(Calls c) {
        c.keep(0);
        c.restore(0);
        c.count(5, 1);
        c.undo(0);
    }

    static void promise23DropsTheOldestOfAFullHistory(Calls c) {
        c.ones(4);
        c.keep(4);
        c.restore(4);
        c.count(5, 4);
        c.undo(3);
        c.undo(2);
        c.undo(1);
        c.undo(0);
        c.count(1, 1);
    }

    static void promise23TheHistoryIsNoPartOfIt(Calls c) {
        c.ones(2);
        c.keep(2);
        c.term(2, 0, 0, 0, 3);
        c.restore(2);
        c.count(5, 4);
    }

    static void promise23TheTextIsNoPartOfIt(Calls c) {
        c.write("x");
        c.keep(0);
        c.write("33yy");
        c.restore(0);
        c.count(6, 4);
        c.read(1);
        c.termIs(0, 33, 0, 2, 0);
    }

    static void promise23VariablesComeBack(Calls c) {
        c.variables(3, 2);
        c.bound(2, -1, 1, 1);
        c.keep(0);
        c.variables(1, 3);
        c.bound(0, -9, 9, 1);
        c.restore(0);
        c.count(0, 3);
        c.count(10, -50);
        c.count(12, -1);
        c.count(22, 1);
        c.count(2, 6);
    }

    static void promise23UndoOfIt(Calls c) {
        c.changesNothing(d -> {
            d.rich();
            d.undo(3);
        }, d -> {
            d.restore(9);
            d.undo(3);
        });
    }

    /** The rows are as full as they can be, and come back to their last number. */
    static void promise23FullRowsComeBack(Calls c) {
        c.rich();
        c.keep(10);
        c.variables(1, 3);
        c.restore(10);
        c.termIs(9, 7, 1, 0, 0);
        c.directionIs(7, -1, -2, -3);
        c.count(10, -40);
        c.count(22, 49);
    }

    // ---- 24: undo

    static void promise24EmptyHistory(Calls c) {
        c.undo(IMPOSSIBLE);
        c.term(1, 0, 0, 0, 1);
        c.undo(0);
        c.undo(IMPOSSIBLE);
    }

    static void promise24EmptyHistoryChangesNothing(Calls c) {
        c.changesNothing(d -> {
            d.rich();
            d.undo(3);
            d.undo(2);
            d.undo(1);
            d.undo(0);
        }, d -> d.undo(IMPOSSIBLE));
    }

    static void promise24FourStates(Calls c) {
        c.ones(4);
        c.undo(3);
        c.count(1, 3);
        c.undo(2);
        c.count(1, 2);
        c.undo(1);
        c.count(1, 1);
        c.undo(0);
        c.count(1, 0);
    }

    static void promise24TheFifthDropsTheOldest(Calls c) {
        c.ones(5);
        c.count(5, 4);
        c.undo(3);
        c.undo(2);
        c.undo(1);
        c.undo(0);
        c.count(1, 1);
        c.undo(IMPOSSIBLE);
    }

    static void promise24StateIsRemoved(Calls c) {
        c.ones(3);
        c.undo(2);
        c.count(5, 2);
        c.term(9, 0, 0, 0, 3);
        c.count(5, 3);
        c.undo(2);
        c.count(1, 2);
        c.undo(1);
        c.count(1, 1);
    }

    static void promise24IsNoChange(Calls c) {
        c.ones(2);
        c.undo(1);
        c.undo(0);
        c.count(1, 0);
    }

    static void promise24RoomAgainBehindFour(Calls c) {
        c.ones(6);
        c.undo(3);
        c.undo(2);
        c.term(7, 0, 0, 0, 5);
        c.term(8, 0, 0, 0, 6);
        c.count(5, 4);
        c.undo(3);
        c.undo(2);
        c.undo(1);
        c.undo(0);
        c.count(1, 2);
    }

    static void promise24TheTextStays(Calls c) {
        c.write("x");
        c.term(1, 0, 0, 0, 1);
        c.write("44y");
        c.undo(0);
        c.count(6, 3);
        c.read(1);
        c.termIs(0, 44, 0, 1, 0);
    }

    static void promise24TheSnapshotStays(Calls c) {
        c.term(3, 0, 0, 0, 1);
        c.keep(1);
        c.undo(0);
        c.count(7, 1);
        c.restore(1);
        c.termIs(0, 3, 0, 0, 0);
    }

    static void promise24ANewerSnapshotStays(Calls c) {
        c.keep(0);
        c.term(3, 0, 0, 0, 1);
        c.keep(1);
        c.undo(0);
        c.restore(1);
    }

    // ---- 24: what is recorded

    /** A search under way with room in the history, beside the same with one more change that is undone. */
    private static void undone(Calls c, Consumer<Calls> change) {
        c.changesNothing(d -> {
            d.rich();
            d.dropTerm(9, 7);
            d.write("4z-xxyy");
            d.undo(3);
        }, d -> {
            change.accept(d);
            d.count(5, 4);
            d.undo(3);
        });
    }

    static void promise24UndoOfVariables(Calls c) {
        undone(c, d -> d.variables(1, 3));
    }

    static void promise24UndoOfTheSameVariables(Calls c) {
        undone(c, d -> d.variables(3, 3));
    }

    static void promise24UndoOfTerm(Calls c) {
        c.changesNothing(d -> d.ones(2), d -> {
            d.term(5, 1, 0, 0, 3);
            d.undo(2);
        });
    }

    static void promise24UndoOfTheTenthTerm(Calls c) {
        c.changesNothing(d -> {
            d.ones(9);
            d.undo(3);
            d.term(4, 1, 0, 0, 9);
            d.undo(3);
        }, d -> {
            d.term(5, 1, 0, 0, 9);
            d.undo(3);
        });
    }

    static void promise24UndoOfDropTerm(Calls c) {
        undone(c, d -> d.dropTerm(0, 2));
    }

    static void promise24UndoOfBound(Calls c) {
        undone(c, d -> d.bound(0, 50, 50, 0));
    }

    static void promise24UndoOfTheSameBound(Calls c) {
        undone(c, d -> d.bound(0, -40, 45, 1));
    }

    static void promise24UndoOfDirection(Calls c) {
        c.changesNothing(d -> {
            d.term(1, 1, 0, 0, 1);
            d.poll(1);
        }, d -> {
            d.direction(2, 2, 0, 4);
            d.undo(2);
        });
    }

    static void promise24UndoOfDropDirection(Calls c) {
        undone(c, d -> d.dropDirection(0, 7));
    }

    static void promise24UndoOfDropDirectionOfTheLatest(Calls c) {
        c.changesNothing(d -> {
            d.term(1, 1, 0, 0, 1);
            d.poll(1);
        }, d -> {
            d.dropDirection(1, 3);
            d.undo(2);
        });
    }

    static void promise24UndoOfStart(Calls c) {
        undone(c, d -> d.start(1, 2, 3, 4, 1));
    }

    static void promise24UndoOfStartThatIsNotAllowed(Calls c) {
        undone(c, d -> d.start(-50, 2, 3, 4, 0));
    }

    static void promise24UndoOfOrder(Calls c) {
        undone(c, d -> d.order(2, 0, 11));
    }

    static void promise24UndoOfTheSameOrder(Calls c) {
        undone(c, d -> d.order(1, 1, 11));
    }

    static void promise24UndoOfPoll(Calls c) {
        undone(c, d -> d.meshes.poll());
    }

    static void promise24UndoOfPollWithoutSuccess(Calls c) {
        c.changesNothing(d -> d.start(0, 0, 0, 0, 1), d -> {
            d.poll(-1);
            d.undo(1);
        });
    }

    static void promise24UndoOfRun(Calls c) {
        undone(c, d -> d.meshes.run(60));
    }

    static void promise24UndoOfRestore(Calls c) {
        undone(c, d -> d.restore(9));
    }

    static void promise24UndoOfRead(Calls c) {
        undone(c, d -> d.read(2));
    }

    static void promise24UndoOfTheSeventhSuccess(Calls c) {
        c.changesNothing(d -> {
            d.term(1, 1, 0, 0, 1);
            d.start(50, 0, 0, 0, 1);
            d.run(6, 6);
        }, d -> {
            d.poll(1);
            d.undo(3);
        });
    }

    // ---- 24: what is not recorded

    /** Changes that are undone, with calls between that are none. */
    private static void notRecorded(Calls c, Consumer<Calls> call) {
        c.ones(2);
        call.accept(c);
        c.count(5, 2);
        c.undo(1);
        c.count(1, 1);
    }

    static void promise24KeepIsNotRecorded(Calls c) {
        notRecorded(c, d -> d.keep(2));
    }

    static void promise24TypeIsNotRecorded(Calls c) {
        notRecorded(c, d -> d.type('x', 1));
    }

    static void promise24ClearTextIsNotRecorded(Calls c) {
        notRecorded(c, d -> d.clearText(0));
    }

    static void promise24LooksAreNotRecorded(Calls c) {
        notRecorded(c, d -> {
            d.value(0, 0, 0, 0, 2);
            d.termOf(0, 0, 1);
            d.directionOf(0, 0, 1);
            d.searchOf(3, 4);
            d.leftAt(0, 0, NOTHING);
            d.count(0, 2);
            d.trialOf(0, 0, 0);
            d.spans(1);
            d.stuck(0, 1);
            d.around(1, 0, -4);
            d.fault(1, 1);
        });
    }

    static void promise24RefusedChangesAreNotRecorded(Calls c) {
        notRecorded(c, d -> {
            d.variables(0, INVALID);
            d.term(0, 0, 0, 0, INVALID);
            d.dropTerm(2, IMPOSSIBLE);
            d.bound(2, 0, 0, INVALID);
            d.direction(1, 0, 0, IMPOSSIBLE);
            d.dropDirection(4, IMPOSSIBLE);
            d.start(0, 0, 0, 5, INVALID);
            d.order(0, 2, INVALID);
            d.run(0, INVALID);
            d.restore(IMPOSSIBLE);
            d.read(IMPOSSIBLE);
        });
    }

    static void promise24RefusedAtALimitIsNotRecorded(Calls c) {
        c.ones(10);
        c.eightDirections();
        c.term(1, 0, 0, 0, LIMIT);
        c.direction(2, 2, 0, LIMIT);
        c.undo(3);
        c.count(2, 7);
        c.undo(2);
        c.undo(1);
        c.undo(0);
        c.count(1, 10);
        c.count(2, 4);
    }
}
