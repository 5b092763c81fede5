/** A new object and the calls of it, each with the answer that is due. */
final class Calls {
    static final int INVALID = -1000001;
    static final int IMPOSSIBLE = -1000002;
    static final int LIMIT = -1000003;
    static final int NOTHING = -1000004;

    private static final long SHIFT = 20000000000L;

    final PollMeshes meshes = new PollMeshes();
    private final Due due;
    private final String test;

    Calls(Due due, String test) {
        this.due = due;
        this.test = test;
    }

    void variables(int n, int want) {
        due.same(test, "variables(" + n + ")", meshes.variables(n), want);
    }

    void term(int factor, int x, int y, int z, int want) {
        due.same(test, "term" + list(factor, x, y, z), meshes.term(factor, x, y, z), want);
    }

    void dropTerm(int index, int want) {
        due.same(test, "dropTerm" + list(index), meshes.dropTerm(index), want);
    }

    void bound(int variable, int low, int high, int want) {
        due.same(test, "bound" + list(variable, low, high), meshes.bound(variable, low, high), want);
    }

    void direction(int x, int y, int z, int want) {
        due.same(test, "direction" + list(x, y, z), meshes.direction(x, y, z), want);
    }

    void dropDirection(int index, int want) {
        due.same(test, "dropDirection" + list(index), meshes.dropDirection(index), want);
    }

    void start(int x, int y, int z, int size, int want) {
        due.same(test, "start" + list(x, y, z, size), meshes.start(x, y, z, size), want);
    }

    void order(int order, int way, int want) {
        due.same(test, "order" + list(order, way), meshes.order(order, way), want);
    }

    void poll(int want) {
        due.same(test, "poll()", meshes.poll(), want);
    }

    void run(int many, int want) {
        due.same(test, "run" + list(many), meshes.run(many), want);
    }

    void value(int x, int y, int z, int simpler, long want) {
        due.same(test, "value" + list(x, y, z, simpler), meshes.value(x, y, z, simpler), SHIFT + want);
    }

    void valueInvalid(int x, int y, int z, int simpler) {
        due.same(test, "value" + list(x, y, z, simpler), meshes.value(x, y, z, simpler), INVALID);
    }

    void termOf(int index, int what, int want) {
        due.same(test, "termOf" + list(index, what), meshes.termOf(index, what), want);
    }

    /** The factor and the powers of a term. */
    void termIs(int index, int factor, int x, int y, int z) {
        termOf(index, 0, factor);
        termOf(index, 1, x);
        termOf(index, 2, y);
        termOf(index, 3, z);
    }

    void directionOf(int index, int what, int want) {
        due.same(test, "directionOf" + list(index, what), meshes.directionOf(index, what), want);
    }

    /** The numbers of a direction. */
    void directionIs(int index, int x, int y, int z) {
        directionOf(index, 0, x);
        directionOf(index, 1, y);
        directionOf(index, 2, z);
    }

    void searchOf(int what, int want) {
        due.same(test, "searchOf" + list(what), meshes.searchOf(what), want);
    }

    /** The place of the search and the size of the mesh. */
    void placeIs(int x, int y, int z, int size) {
        searchOf(0, x);
        searchOf(1, y);
        searchOf(2, z);
        searchOf(3, size);
    }

    /** The polls, the successes, the trials and the direction of the latest success. */
    void accountsAre(int polls, int successes, int looked, int latest) {
        searchOf(4, polls);
        searchOf(5, successes);
        searchOf(6, looked);
        searchOf(7, latest);
    }

    void leftAt(int index, int variable, int want) {
        due.same(test, "leftAt" + list(index, variable), meshes.leftAt(index, variable), want);
    }

    void count(int what, int want) {
        due.same(test, "count" + list(what), meshes.count(what), want);
    }

    void trialOf(int index, int what, int want) {
        due.same(test, "trialOf" + list(index, what), meshes.trialOf(index, what), want);
    }

    /** The directions of all trials that are allowed, in order. */
    void trialsAre(int... directions) {
        for (int i = 0; i < directions.length; i++) {
            trialOf(i, 0, directions[i]);
        }
        trialOf(directions.length, 0, NOTHING);
    }

    void spans(int want) {
        due.same(test, "spans()", meshes.spans(), want);
    }

    void stuck(int size, int want) {
        due.same(test, "stuck" + list(size), meshes.stuck(size), want);
    }

    void around(int many, int what, int want) {
        due.same(test, "around" + list(many, what), meshes.around(many, what), want);
    }

    /** The numbers of the best place around. */
    void aroundIs(int many, int x, int y, int z) {
        around(many, 0, x);
        around(many, 1, y);
        around(many, 2, z);
    }

    void keep(int want) {
        due.same(test, "keep()", meshes.keep(), want);
    }

    void restore(int want) {
        due.same(test, "restore()", meshes.restore(), want);
    }

    void undo(int want) {
        due.same(test, "undo()", meshes.undo(), want);
    }

    void type(int character, int want) {
        due.same(test, "type" + list(character), meshes.type(character), want);
    }

    /** Empties the text and types another one. */
    void write(String text) {
        meshes.clearText();
        for (int i = 0; i < text.length(); i++) {
            type(text.charAt(i), i + 1);
        }
    }

    void clearText(int want) {
        due.same(test, "clearText()", meshes.clearText(), want);
    }

    void fault(int what, int want) {
        due.same(test, "fault" + list(what), meshes.fault(what), want);
    }

    /** Writes a text with a fault. */
    void faultOf(String text, int place, int reason) {
        write(text);
        due.same(test, "fault(0) of \"" + text + "\"", meshes.fault(0), place);
        due.same(test, "fault(1) of \"" + text + "\"", meshes.fault(1), reason);
        due.same(test, "read() of \"" + text + "\"", meshes.read(), IMPOSSIBLE);
    }

    /** Writes a text without a fault, and reads it. */
    void readOf(String text, int terms) {
        write(text);
        due.same(test, "fault(0) of \"" + text + "\"", meshes.fault(0), NOTHING);
        due.same(test, "fault(1) of \"" + text + "\"", meshes.fault(1), NOTHING);
        due.same(test, "read() of \"" + text + "\"", meshes.read(), terms);
    }

    void read(int want) {
        due.same(test, "read()", meshes.read(), want);
    }

    private static String list(int... numbers) {
        StringBuilder text = new StringBuilder("(");
        for (int i = 0; i < numbers.length; i++) {
            text.append(i == 0 ? "" : ", ").append(numbers[i]);
        }
        return text.append(")").toString();
    }
}
