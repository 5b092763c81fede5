import java.util.ArrayList;
import java.util.List;

/**
 * All that an object holds, at one of several stages: as it is, behind undos, behind restore, behind read.
 * Each stage wants objects of its own, as one object has no promises beyond its 512th call.
 */
final class Whole {
    static final int STAGES = 7;
    private static final int MOST_UNDOS = 4;

    private final PollMeshes meshes;
    private final List<String> calls = new ArrayList<>();
    private final List<Long> answers = new ArrayList<>();

    private Whole(PollMeshes meshes, int stage) {
        this.meshes = meshes;
        goTo(stage);
        listState("at stage " + stage);
    }

    /** Prints the first answer that differs; the objects are used up by this. */
    static void compare(Due due, String test, int stage, PollMeshes one, PollMeshes other) {
        Whole first = new Whole(one, stage);
        Whole second = new Whole(other, stage);
        for (int i = 0; i < first.calls.size(); i++) {
            long got = first.answers.get(i);
            long want = second.answers.get(i);
            due.same(test, "against its twin, " + first.calls.get(i), got, want);
            if (got != want) {
                return;
            }
        }
    }

    private void add(String call, long answer) {
        calls.add(call);
        answers.add(answer);
    }

    /** The stages up to MOST_UNDOS tell how many states are taken back. */
    private void goTo(int stage) {
        if (stage <= MOST_UNDOS) {
            for (int i = 1; i <= stage; i++) {
                add("undo() the time " + i, meshes.undo());
            }
        } else if (stage == MOST_UNDOS + 1) {
            add("restore()", meshes.restore());
        } else {
            add("variables(3)", meshes.variables(3));
            add("read()", meshes.read());
        }
    }

    private void listState(String when) {
        for (int what = 0; what < 30; what++) {
            add(when + " count(" + what + ")", meshes.count(what));
        }
        for (int what = 0; what < 10; what++) {
            add(when + " searchOf(" + what + ")", meshes.searchOf(what));
        }
        for (int index = 0; index < 11; index++) {
            for (int what = 0; what < 4; what++) {
                String these = "(" + index + ", " + what + ")";
                add(when + " termOf" + these, meshes.termOf(index, what));
                add(when + " directionOf" + these, meshes.directionOf(index, what));
                add(when + " leftAt" + these, meshes.leftAt(index, what));
                add(when + " trialOf" + these, meshes.trialOf(index, what));
                add(when + " around(" + what + ", " + index + ")", meshes.around(what, index));
            }
            add(when + " stuck(" + index + ")", meshes.stuck(index));
            add(when + " value(" + index + ", 0, 0, 0)", meshes.value(index, 0, 0, 0));
        }
        add(when + " spans()", meshes.spans());
        add(when + " fault(0)", meshes.fault(0));
        add(when + " fault(1)", meshes.fault(1));
    }
}
