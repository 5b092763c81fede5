/** All promises: long runs of calls of every kind, each answer compared with the model's. */
final class ModelTest {
    private static final int RUNS = 9000;
    /** Nothing is promised beyond this call of an object. */
    private static final int CALLS = 512;
    private static final int CALLS_TO_COMPARE_ALL = 23 + 10 * (3 + 4 * 3) + 3;
    private static final int KINDS = 28;
    private static final String SIGNS = "xyz+-0123459 ?";

    private final Due due;
    private final String test;
    private final PollMeshes meshes = new PollMeshes();
    private final Model model = new Model();
    private long seed;
    private int calls;
    private boolean differs;

    private ModelTest(Due due, int run) {
        this.due = due;
        this.test = "run " + run + " beside the model";
        this.seed = 88172645463325252L + 977L * run;
    }

    static void check(Due due) {
        for (int run = 0; run < RUNS; run++) {
            new ModelTest(due, run).check(run % 4);
        }
    }

    /** All that there is is compared at the end of a run, and at times in the midst of it. */
    private void check(int flavour) {
        while (calls + CALLS_TO_COMPARE_ALL < CALLS && !differs) {
            perform(kindOfCall(flavour));
            if (next(150) == 0 && calls + 2 * CALLS_TO_COMPARE_ALL < CALLS) {
                compareAll();
            }
        }
        compareAll();
        due.same(test, "calls within " + CALLS, calls <= CALLS ? 1 : 0, 1);
    }

    /** Some runs search more, some type more; a new number of variables is rare, as it forgets much. */
    private int kindOfCall(int flavour) {
        int kind = next(KINDS);
        if (kind == 0 && next(4) > 0 || kind == 2 && next(2) > 0) {
            kind = 1;
        }
        if (flavour == 1 && next(3) == 0) {
            kind = 7 + next(4);
        }
        if (flavour == 2 && next(3) == 0) {
            kind = 24;
        }
        if (flavour == 3 && next(3) == 0) {
            kind = 1 + next(6);
        }
        return kind;
    }

    private int next(int bound) {
        seed ^= seed << 13;
        seed ^= seed >>> 7;
        seed ^= seed << 17;
        return (int) Math.floorMod(seed >>> 11, (long) bound);
    }

    /** Mostly within the range, at times at its edge, beyond it, or anything at all. */
    private int number(int least, int most) {
        switch (next(24)) {
            case 0:
                return least;
            case 1:
                return most;
            case 2:
                return next(3) == 0 ? least - 1 : least;
            case 3:
                return next(3) == 0 ? most + 1 : most;
            case 4:
                return next(8) == 0 ? (int) (seed >>> 17) : least;
            case 5:
                return next(8) == 0 ? (next(2) == 0 ? Integer.MAX_VALUE : Integer.MIN_VALUE) : most;
            default:
                return least + next(most - least + 1);
        }
    }

    /** A number for a variable: mostly 0 if it isn't there. */
    private int numberFor(int variable, int least, int most) {
        if (variable >= model.count(0) && next(12) > 0) {
            return 0;
        }
        return number(least, most);
    }

    private int small(int variable) {
        return numberFor(variable, 0, next(2) == 0 ? 1 : next(2) == 0 ? 2 : 4);
    }

    private void answer(String name, long got, long want, int... arguments) {
        calls++;
        differs = differs || got != want;
        due.same(test, "call " + calls + ", " + name + java.util.Arrays.toString(arguments), got, want);
    }

    private void perform(int kind) {
        if (kind < 7) {
            performFunctions(kind);
        } else if (kind < 11) {
            performSearch(kind);
        } else if (kind < 17) {
            performViews(kind);
        } else {
            performRest(kind);
        }
    }

    private void performFunctions(int kind) {
        int a = number(-99, 99);
        int x = small(0);
        int y = small(1);
        int z = small(2);
        switch (kind) {
            case 0 -> {
                int n = number(1, 3);
                answer("variables", meshes.variables(n), model.variables(n), n);
            }
            case 1 -> answer("term", meshes.term(a, x, y, z), model.term(a, x, y, z), a, x, y, z);
            case 2 -> {
                int index = number(0, 11);
                answer("dropTerm", meshes.dropTerm(index), model.dropTerm(index), index);
            }
            case 3 -> {
                int variable = number(0, model.count(0) - 1);
                int low = number(-50, next(6) == 0 ? 50 : -10);
                int high = number(next(6) == 0 ? Math.max(Math.min(low, 50), -50) : 10, 50);
                answer("bound", meshes.bound(variable, low, high), model.bound(variable, low, high),
                        variable, low, high);
            }
            case 4, 5 -> {
                int p = numberFor(0, -3, 3);
                int q = numberFor(1, -3, 3);
                int r = numberFor(2, -3, 3);
                answer("direction", meshes.direction(p, q, r), model.direction(p, q, r), p, q, r);
            }
            default -> {
                int index = number(0, next(2) == 0 ? 8 : 4);
                answer("dropDirection", meshes.dropDirection(index), model.dropDirection(index), index);
            }
        }
    }

    private void performSearch(int kind) {
        switch (kind) {
            case 7 -> {
                int x = numberFor(0, -50, 50);
                int y = numberFor(1, -50, 50);
                int z = numberFor(2, -50, 50);
                int size = number(0, 4);
                answer("start", meshes.start(x, y, z, size), model.start(x, y, z, size), x, y, z, size);
            }
            case 8 -> {
                int order = number(0, 2);
                int way = number(0, 1);
                answer("order", meshes.order(order, way), model.order(order, way), order, way);
            }
            case 9 -> answer("poll", meshes.poll(), model.poll());
            default -> {
                int many = number(1, next(2) == 0 ? 6 : 60);
                answer("run", meshes.run(many), model.run(many), many);
            }
        }
    }

    private void performViews(int kind) {
        int x = numberFor(0, -50, 50);
        int y = numberFor(1, -50, 50);
        int z = numberFor(2, -50, 50);
        int index = number(0, 9);
        int what = number(0, 3);
        int more = number(0, 24);
        switch (kind) {
            case 11 -> {
                int simpler = number(0, 1);
                answer("value", meshes.value(x, y, z, simpler), model.value(x, y, z, simpler), x, y, z, simpler);
            }
            case 12 -> answer("termOf", meshes.termOf(index, what), model.termOf(index, what), index, what);
            case 13 -> answer("directionOf", meshes.directionOf(index, what), model.directionOf(index, what),
                    index, what);
            case 14 -> answer("searchOf", meshes.searchOf(index), model.searchOf(index), index);
            case 15 -> answer("leftAt", meshes.leftAt(index, what), model.leftAt(index, what), index, what);
            default -> answer("count", meshes.count(more), model.count(more), more);
        }
    }

    private void performRest(int kind) {
        int index = number(0, 7);
        int bit = number(0, 1);
        int size = number(0, 4);
        int many = number(0, 3);
        int what = number(0, 2);
        switch (kind) {
            case 17 -> answer("trialOf", meshes.trialOf(index, bit), model.trialOf(index, bit), index, bit);
            case 18 -> answer("spans", meshes.spans(), model.spans());
            case 19 -> answer("stuck", meshes.stuck(size), model.stuck(size), size);
            case 20 -> answer("around", meshes.around(many, what), model.around(many, what), many, what);
            case 21 -> answer("keep", meshes.keep(), model.keep());
            case 22 -> answer("restore", meshes.restore(), model.restore());
            case 23 -> answer("undo", meshes.undo(), model.undo());
            case 24 -> typeSome();
            case 25 -> answer("clearText", meshes.clearText(), model.clearText());
            case 26 -> answer("fault", meshes.fault(bit), model.fault(bit), bit);
            default -> answer("read", meshes.read(), model.read());
        }
    }

    /** Signs that mostly continue the text without a fault, at times any sign. */
    private void typeSome() {
        int character = next(40) == 0 ? number(32, 126) : SIGNS.charAt(next(SIGNS.length()));
        if (next(20) > 0 && model.fault(1) < 0) {
            character = "xyx+-+-+".charAt(next(8));
        } else if (next(20) > 0) {
            character = "xyxyx123".charAt(next(8));
        }
        answer("type", meshes.type(character), model.type(character), character);
    }

    private void compareAll() {
        for (int what = 0; what < 23; what++) {
            answer("count", meshes.count(what), model.count(what), what);
        }
        for (int what = 0; what < 10; what++) {
            answer("searchOf", meshes.searchOf(what), model.searchOf(what), what);
            answer("trialOf", meshes.trialOf(what, 0), model.trialOf(what, 0), what, 0);
            answer("trialOf", meshes.trialOf(what, 1), model.trialOf(what, 1), what, 1);
            for (int k = 0; k < 4; k++) {
                answer("termOf", meshes.termOf(what, k), model.termOf(what, k), what, k);
                answer("directionOf", meshes.directionOf(what, k), model.directionOf(what, k), what, k);
                answer("leftAt", meshes.leftAt(what, k), model.leftAt(what, k), what, k);
            }
        }
        answer("spans", meshes.spans(), model.spans());
        answer("fault", meshes.fault(0), model.fault(0), 0);
        answer("fault", meshes.fault(1), model.fault(1), 1);
    }
}
