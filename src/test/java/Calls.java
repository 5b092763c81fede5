import java.util.function.Consumer;

/** A new object and the calls of it, each with the answer that is due. */
final class Calls {
    static final int INVALID = -1000001;
    static final int IMPOSSIBLE = -1000002;
    static final int LIMIT = -1000003;
    static final int NOTHING = -1000004;

    /** Numbers that a sum, a product or an index could wrap around with; the first half of them is negative. */
    static final int[] WILD = {Integer.MIN_VALUE, Integer.MIN_VALUE + 1, -1431655765, -715827882, -65536,
            65536, 715827883, 1431655766, Integer.MAX_VALUE - 1, Integer.MAX_VALUE};

    private static final long SHIFT = 20000000000L;

    final PollMeshes meshes = new PollMeshes();
    private final Due due;
    private final String test;

    Calls(Due due, String test) {
        this.due = due;
        this.test = test;
    }

    /** So many terms, each of them the number 1. */
    void ones(int many) {
        for (int i = 1; i <= many; i++) {
            term(1, 0, 0, 0, i);
        }
    }

    void noDirections() {
        for (int i = meshes.count(2) - 1; i >= 0; i--) {
            dropDirection(i, i);
        }
    }

    /** Only these directions, each told by three numbers. */
    void onlyDirections(int... steps) {
        noDirections();
        for (int i = 0; i + 2 < steps.length; i += 3) {
            direction(steps[i], steps[i + 1], steps[i + 2], i / 3);
        }
    }

    /** The first four of two variables and four more, which makes eight. */
    void eightDirections() {
        direction(1, 1, 0, 4);
        direction(-1, -1, 0, 5);
        direction(3, -3, 0, 6);
        direction(-3, 3, 0, 7);
    }

    /** Full rows of terms and directions, a search under way, a full history, a snapshot and a text. */
    void rich() {
        variables(3, 2);
        term(2, 2, 0, 0, 1);
        term(3, 0, 2, 0, 2);
        term(1, 0, 0, 2, 3);
        term(-5, 1, 1, 0, 4);
        term(4, 0, 0, 1, 5);
        for (int i = 6; i <= 9; i++) {
            term(i, 0, 0, 0, i);
        }
        direction(1, 1, 1, 6);
        direction(-1, -2, -3, 7);
        bound(0, -40, 45, 1);
        bound(2, -50, 49, 1);
        write("x-3yy+12z");
        order(1, 1, 0);
        start(30, 20, -10, 0, 1);
        run(5, 5);
        keep(9);
        term(7, 1, 0, 0, 10);
        meshes.poll();
        count(5, 4);
    }

    /** Two objects with the same calls, of which one has more: all that there is must be the same. */
    void changesNothing(Consumer<Calls> before, Consumer<Calls> more) {
        for (int stage = 0; stage < Whole.STAGES; stage++) {
            Calls one = new Calls(due, test);
            Calls twin = new Calls(due, test);
            before.accept(one);
            before.accept(twin);
            more.accept(one);
            Whole.compare(due, test, stage, one.meshes, twin.meshes);
        }
    }

    void variables(int n, int want) {
        due.same(test, "variables(" + n + ")", meshes.variables(n), want);
    }

    void term(int factor, int x, int y, int z, int want) {
        due.same(test, "term" + list(factor, x, y, z), meshes.term(factor, x, y, z), want);
    }

    void dropTerm(int index, int want) {
        due.same(test, "dropTerm" + list(index), meshes.dropTerm(index), want);
    }

    void bound(int variable, int low, int high, int want) {
        due.same(test, "bound" + list(variable, low, high), meshes.bound(variable, low, high), want);
    }

    void direction(int x, int y, int z, int want) {
        due.same(test, "direction" + list(x, y, z), meshes.direction(x, y, z), want);
    }

    void dropDirection(int index, int want) {
        due.same(test, "dropDirection" + list(index), meshes.dropDirection(index), want);
    }

    void start(int x, int y, int z, int size, int want) {
        due.same(test, "start" + list(x, y, z, size), meshes.start(x, y, z, size), want);
    }

    void order(int order, int way, int want) {
        due.same(test, "order" + list(order, way), meshes.order(order, way), want);
    }

    void poll(int want) {
        due.same(test, "poll()", meshes.poll(), want);
    }

    void run(int many, int want) {
        due.same(test, "run" + list(many), meshes.run(many), want);
    }

    void value(int x, int y, int z, int simpler, long want) {
        due.same(test, "value" + list(x, y, z, simpler), meshes.value(x, y, z, simpler), SHIFT + want);
    }

    void valueInvalid(int x, int y, int z, int simpler) {
        due.same(test, "value" + list(x, y, z, simpler), meshes.value(x, y, z, simpler), INVALID);
    }

    void termOf(int index, int what, int want) {
        due.same(test, "termOf" + list(index, what), meshes.termOf(index, what), want);
    }

    /** The factor and the powers of a term. */
    void termIs(int index, int factor, int x, int y, int z) {
        termOf(index, 0, factor);
        termOf(index, 1, x);
        termOf(index, 2, y);
        termOf(index, 3, z);
    }

    void directionOf(int index, int what, int want) {
        due.same(test, "directionOf" + list(index, what), meshes.directionOf(index, what), want);
    }

    /** The numbers of a direction. */
    void directionIs(int index, int x, int y, int z) {
        directionOf(index, 0, x);
        directionOf(index, 1, y);
        directionOf(index, 2, z);
    }

    void searchOf(int what, int want) {
        due.same(test, "searchOf" + list(what), meshes.searchOf(what), want);
    }

    /** The place of the search and the size of the mesh. */
    void placeIs(int x, int y, int z, int size) {
        searchOf(0, x);
        searchOf(1, y);
        searchOf(2, z);
        searchOf(3, size);
    }

    /** The polls, the successes, the trials and the direction of the latest success. */
    void accountsAre(int polls, int successes, int looked, int latest) {
        searchOf(4, polls);
        searchOf(5, successes);
        searchOf(6, looked);
        searchOf(7, latest);
    }

    void leftAt(int index, int variable, int want) {
        due.same(test, "leftAt" + list(index, variable), meshes.leftAt(index, variable), want);
    }

    void count(int what, int want) {
        due.same(test, "count" + list(what), meshes.count(what), want);
    }

    void trialOf(int index, int what, int want) {
        due.same(test, "trialOf" + list(index, what), meshes.trialOf(index, what), want);
    }

    /** The directions of all trials that are allowed, in order. */
    void trialsAre(int... directions) {
        for (int i = 0; i < directions.length; i++) {
            trialOf(i, 0, directions[i]);
        }
        trialOf(directions.length, 0, NOTHING);
    }

    void spans(int want) {
        due.same(test, "spans()", meshes.spans(), want);
    }

    void stuck(int size, int want) {
        due.same(test, "stuck" + list(size), meshes.stuck(size), want);
    }

    void around(int many, int what, int want) {
        due.same(test, "around" + list(many, what), meshes.around(many, what), want);
    }

    /** The numbers of the best place around. */
    void aroundIs(int many, int x, int y, int z) {
        around(many, 0, x);
        around(many, 1, y);
        around(many, 2, z);
    }

    void keep(int want) {
        due.same(test, "keep()", meshes.keep(), want);
    }

    void restore(int want) {
        due.same(test, "restore()", meshes.restore(), want);
    }

    void undo(int want) {
        due.same(test, "undo()", meshes.undo(), want);
    }

    void type(int character, int want) {
        due.same(test, "type" + list(character), meshes.type(character), want);
    }

    /** Empties the text and types another one. */
    void write(String text) {
        meshes.clearText();
        for (int i = 0; i < text.length(); i++) {
            type(text.charAt(i), i + 1);
        }
    }

    void clearText(int want) {
        due.same(test, "clearText()", meshes.clearText(), want);
    }

    void fault(int what, int want) {
        due.same(test, "fault" + list(what), meshes.fault(what), want);
    }

    /** Writes a text with a fault. */
    void faultOf(String text, int place, int reason) {
        write(text);
        due.same(test, "fault(0) of \"" + text + "\"", meshes.fault(0), place);
        due.same(test, "fault(1) of \"" + text + "\"", meshes.fault(1), reason);
        due.same(test, "read() of \"" + text + "\"", meshes.read(), IMPOSSIBLE);
    }

    /** Writes a text without a fault, and reads it. */
    void readOf(String text, int terms) {
        write(text);
        due.same(test, "fault(0) of \"" + text + "\"", meshes.fault(0), NOTHING);
        due.same(test, "fault(1) of \"" + text + "\"", meshes.fault(1), NOTHING);
        due.same(test, "read() of \"" + text + "\"", meshes.read(), terms);
    }

    void read(int want) {
        due.same(test, "read()", meshes.read(), want);
    }

    private static String list(int... numbers) {
        StringBuilder text = new StringBuilder("(");
        for (int i = 0; i < numbers.length; i++) {
            text.append(i == 0 ? "" : ", ").append(numbers[i]);
        }
        return text.append(")").toString();
    }
}
