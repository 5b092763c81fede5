/** Direct search on meshes, as ../shared/DOC.md tells it; README.md says how to use it. */
public final class PollMeshes {
    public static final int INVALID_ARGUMENT = -1000001;
    public static final int NOT_POSSIBLE = -1000002;
    public static final int LIMIT_REACHED = -1000003;
    public static final int NOT_FOUND = -1000004;

    private static final int FIRST_VARIABLES = 2;
    private static final int MOST_VARIABLES = 3;
    private static final int MOST_TERMS = 10;
    private static final int MOST_FACTOR = 99;
    private static final int MOST_POWER = 4;
    private static final int MOST_SIMPLER_POWER = 2;
    private static final int MOST_DIRECTIONS = 8;
    private static final int MOST_STEP = 3;
    private static final int EDGE = 50;
    private static final int FIRST_SIZE = 4;
    private static final int MOST_SIZE = 16;
    private static final int MOST_SIZE_POWER = 4;
    private static final int MOST_LEFT = 6;
    private static final int MOST_STATES = 4;
    private static final int MOST_CHARACTERS = 60;
    private static final int MOST_POLLS = 60;
    private static final int MOST_AROUND = 3;
    private static final int NO_DIRECTION = -1;

    /** What value() adds; it is also above every value that a place can have. */
    private static final long VALUE_SHIFT = 20000000000L;

    private final State now;
    private final History history;
    private final State snapshot;
    private boolean hasSnapshot;
    private final Text text;
    private final Trials trials;
    private final Nearby nearby;
    private final Span span;

    public PollMeshes() {
        now = new State();
        now.reset(FIRST_VARIABLES);
        history = new History();
        snapshot = new State();
        hasSnapshot = false;
        text = new Text();
        trials = new Trials();
        nearby = new Nearby();
        span = new Span();
    }

    // ---- functions, bounds, directions

    public int variables(int n) {
        if (!within(n, 1, MOST_VARIABLES)) {
            return INVALID_ARGUMENT;
        }
        int before = now.dimensions;
        history.push(now);
        now.reset(n);
        return before;
    }

    public int term(int factor, int x, int y, int z) {
        if (!within(factor, -MOST_FACTOR, MOST_FACTOR) || factor == 0) {
            return INVALID_ARGUMENT;
        }
        if (!now.fit(x, y, z, 0, MOST_POWER) || x + y + z > MOST_POWER) {
            return INVALID_ARGUMENT;
        }
        if (now.terms.held >= MOST_TERMS) {
            return LIMIT_REACHED;
        }
        history.push(now);
        now.terms.add(factor, x, y, z);
        return now.terms.held;
    }

    public int dropTerm(int index) {
        if (index < 0) {
            return INVALID_ARGUMENT;
        }
        if (index >= now.terms.held) {
            return NOT_POSSIBLE;
        }
        int factor = now.terms.factors[index];
        history.push(now);
        now.terms.remove(index);
        return factor;
    }

    public int bound(int variable, int low, int high) {
        if (!now.hasVariable(variable) || !within(low, -EDGE, EDGE) || !within(high, low, EDGE)) {
            return INVALID_ARGUMENT;
        }
        history.push(now);
        now.bounds.low[variable] = low;
        now.bounds.high[variable] = high;
        return oneIf(now.placeIsAllowed());
    }

    public int direction(int x, int y, int z) {
        if (!now.fit(x, y, z, -MOST_STEP, MOST_STEP) || (x == 0 && y == 0 && z == 0)) {
            return INVALID_ARGUMENT;
        }
        if (now.directions.has(x, y, z)) {
            return NOT_POSSIBLE;
        }
        if (now.directions.held >= MOST_DIRECTIONS) {
            return LIMIT_REACHED;
        }
        history.push(now);
        now.directions.add(x, y, z);
        return now.directions.held - 1;
    }

    public int dropDirection(int index) {
        if (index < 0) {
            return INVALID_ARGUMENT;
        }
        if (index >= now.directions.held) {
            return NOT_POSSIBLE;
        }
        history.push(now);
        now.directions.remove(index);
        now.search.forgetDirection(index);
        return now.directions.held;
    }

    // ---- the search

    public int start(int x, int y, int z, int size) {
        if (!now.fit(x, y, z, -EDGE, EDGE) || !within(size, 0, MOST_SIZE_POWER)) {
            return INVALID_ARGUMENT;
        }
        history.push(now);
        now.search.begin(x, y, z, 1 << size);
        now.directions.forgetTaken();
        return oneIf(now.placeIsAllowed());
    }

    public int order(int order, int way) {
        if (!within(order, 0, 2) || !within(way, 0, 1)) {
            return INVALID_ARGUMENT;
        }
        int before = 10 * now.order + now.way;
        history.push(now);
        now.order = order;
        now.way = way;
        return before;
    }

    public int poll() {
        if (!now.canPoll()) {
            return NOT_POSSIBLE;
        }
        history.push(now);
        return now.pollOnce(trials);
    }

    public int run(int many) {
        if (!within(many, 1, MOST_POLLS)) {
            return INVALID_ARGUMENT;
        }
        if (!now.canPoll()) {
            return NOT_POSSIBLE;
        }
        history.push(now);
        int polls = 0;
        do {
            now.pollOnce(trials);
            polls++;
        } while (polls < many && !now.search.ended);
        return polls;
    }

    // ---- what there is

    public long value(int x, int y, int z, int simpler) {
        if (!now.fit(x, y, z, -EDGE, EDGE) || !within(simpler, 0, 1)) {
            return INVALID_ARGUMENT;
        }
        int mostPower = simpler == 1 ? MOST_SIMPLER_POWER : MOST_POWER;
        return VALUE_SHIFT + now.terms.sumAt(x, y, z, mostPower);
    }

    public int termOf(int index, int what) {
        if (index < 0 || !within(what, 0, MOST_VARIABLES)) {
            return INVALID_ARGUMENT;
        }
        if (index >= now.terms.held) {
            return NOT_FOUND;
        }
        if (what == 0) {
            return now.terms.factors[index];
        }
        return now.terms.powers[MOST_VARIABLES * index + what - 1];
    }

    public int directionOf(int index, int what) {
        if (index < 0 || !within(what, 0, MOST_VARIABLES)) {
            return INVALID_ARGUMENT;
        }
        if (index >= now.directions.held) {
            return NOT_FOUND;
        }
        if (what == MOST_VARIABLES) {
            return now.directions.taken[index];
        }
        return now.directions.steps[MOST_VARIABLES * index + what];
    }

    public int searchOf(int what) {
        switch (what) {
            case 0:
            case 1:
            case 2:
                return now.search.place[what];
            case 3:
                return now.search.size;
            case 4:
                return now.search.polls;
            case 5:
                return now.search.successes;
            case 6:
                return now.search.looked;
            case 7:
                return now.search.latest == NO_DIRECTION ? NOT_FOUND : now.search.latest;
            case 8:
                return now.search.leftHeld;
            case 9:
                return oneIf(now.search.ended);
            default:
                return INVALID_ARGUMENT;
        }
    }

    public int leftAt(int index, int variable) {
        if (index < 0 || !now.hasVariable(variable)) {
            return INVALID_ARGUMENT;
        }
        if (index >= now.search.leftHeld) {
            return NOT_FOUND;
        }
        return now.search.left[MOST_VARIABLES * index + variable];
    }

    public int count(int what) {
        switch (what) {
            case 0:
                return now.dimensions;
            case 1:
                return now.terms.held;
            case 2:
                return now.directions.held;
            case 3:
                return now.order;
            case 4:
                return now.way;
            case 5:
                return history.held;
            case 6:
                return text.length;
            case 7:
                return oneIf(hasSnapshot);
            default:
                return boundOf(what);
        }
    }

    private int boundOf(int what) {
        if (within(what, 10, 9 + now.dimensions)) {
            return now.bounds.low[what - 10];
        }
        if (within(what, 20, 19 + now.dimensions)) {
            return now.bounds.high[what - 20];
        }
        return INVALID_ARGUMENT;
    }

    // ---- what would be

    public int trialOf(int index, int what) {
        if (index < 0 || !within(what, 0, 1)) {
            return INVALID_ARGUMENT;
        }
        trials.gather(now, now.search.size);
        if (index >= trials.held) {
            return NOT_FOUND;
        }
        return what == 0 ? trials.directions[index] : oneIf(trials.isBetter(index));
    }

    public int spans() {
        return oneIf(span.isWhole(now.directions, now.dimensions));
    }

    public int stuck(int size) {
        if (!within(size, 0, MOST_SIZE_POWER)) {
            return INVALID_ARGUMENT;
        }
        if (!now.placeIsAllowed()) {
            return NOT_POSSIBLE;
        }
        trials.gather(now, 1 << size);
        return oneIf(trials.noneIsBetter());
    }

    public int around(int many, int what) {
        if (!within(many, 0, MOST_AROUND) || !within(what, 0, MOST_VARIABLES - 1)) {
            return INVALID_ARGUMENT;
        }
        if (!now.placeIsAllowed()) {
            return NOT_POSSIBLE;
        }
        nearby.findBest(now, many);
        return nearby.best[what];
    }

    // ---- snapshot, undo

    public int keep() {
        snapshot.copyFrom(now);
        hasSnapshot = true;
        return now.terms.held;
    }

    public int restore() {
        if (!hasSnapshot) {
            return NOT_POSSIBLE;
        }
        history.push(now);
        now.copyFrom(snapshot);
        return now.terms.held;
    }

    public int undo() {
        if (history.held == 0) {
            return NOT_POSSIBLE;
        }
        history.giveBack(now);
        return history.held;
    }

    // ---- texts

    public int type(int character) {
        if (!within(character, 32, 126)) {
            return INVALID_ARGUMENT;
        }
        if (text.length >= MOST_CHARACTERS) {
            return LIMIT_REACHED;
        }
        text.append(character);
        return text.length;
    }

    public int clearText() {
        int before = text.length;
        text.length = 0;
        return before;
    }

    public int fault(int what) {
        if (!within(what, 0, 1)) {
            return INVALID_ARGUMENT;
        }
        if (text.isFunction(now.dimensions)) {
            return NOT_FOUND;
        }
        return what == 0 ? text.faultPlace : text.faultReason;
    }

    public int read() {
        if (!text.isFunction(now.dimensions)) {
            return NOT_POSSIBLE;
        }
        history.push(now);
        now.terms.copyFrom(text.found);
        return now.terms.held;
    }

    private static boolean within(int number, int least, int most) {
        return least <= number && number <= most;
    }

    private static int oneIf(boolean held) {
        return held ? 1 : 0;
    }

    /** In a row of groups of so many elements each, those behind the index come down by one group. */
    private static void closeGap(int[] row, int width, int index, int groups) {
        for (int i = width * index; i + width < width * groups; i++) {
            row[i] = row[i + width];
        }
    }

    /** A function: the sum of its terms. */
    private static final class Terms {
        int held;
        final int[] factors = new int[MOST_TERMS];
        final int[] powers = new int[MOST_TERMS * MOST_VARIABLES];

        void copyFrom(Terms other) {
            held = other.held;
            System.arraycopy(other.factors, 0, factors, 0, MOST_TERMS);
            System.arraycopy(other.powers, 0, powers, 0, MOST_TERMS * MOST_VARIABLES);
        }

        void add(int factor, int x, int y, int z) {
            if (held >= MOST_TERMS) {
                return;
            }
            factors[held] = factor;
            powers[MOST_VARIABLES * held] = x;
            powers[MOST_VARIABLES * held + 1] = y;
            powers[MOST_VARIABLES * held + 2] = z;
            held++;
        }

        void remove(int index) {
            if (index < 0 || index >= held) {
                return;
            }
            closeGap(factors, 1, index, held);
            closeGap(powers, MOST_VARIABLES, index, held);
            held--;
        }

        /** The sum of those terms alone whose powers come to at most mostPower. */
        long sumAt(int x, int y, int z, int mostPower) {
            long sum = 0;
            for (int i = 0; i < held; i++) {
                int first = MOST_VARIABLES * i;
                int power = powers[first] + powers[first + 1] + powers[first + 2];
                if (power <= mostPower) {
                    sum += factors[i] * raised(x, powers[first]) * raised(y, powers[first + 1])
                            * raised(z, powers[first + 2]);
                }
            }
            return sum;
        }

        private static long raised(int base, int power) {
            long product = 1;
            for (int i = 0; i < power; i++) {
                product *= base;
            }
            return product;
        }
    }

    /** The lower and upper bounds; those of variables that there are not stay as at first. */
    private static final class Bounds {
        final int[] low = new int[MOST_VARIABLES];
        final int[] high = new int[MOST_VARIABLES];

        void reset() {
            for (int k = 0; k < MOST_VARIABLES; k++) {
                low[k] = -EDGE;
                high[k] = EDGE;
            }
        }

        void copyFrom(Bounds other) {
            System.arraycopy(other.low, 0, low, 0, MOST_VARIABLES);
            System.arraycopy(other.high, 0, high, 0, MOST_VARIABLES);
        }

        boolean allow(int x, int y, int z) {
            return within(x, low[0], high[0]) && within(y, low[1], high[1]) && within(z, low[2], high[2]);
        }
    }

    /** The directions, and how often each was taken in this search. */
    private static final class Directions {
        int held;
        final int[] steps = new int[MOST_DIRECTIONS * MOST_VARIABLES];
        final int[] taken = new int[MOST_DIRECTIONS];

        void reset(int dimensions) {
            held = 0;
            for (int k = 0; k < dimensions; k++) {
                addAlong(k, 1);
                addAlong(k, -1);
            }
        }

        private void addAlong(int variable, int step) {
            add(variable == 0 ? step : 0, variable == 1 ? step : 0, variable == 2 ? step : 0);
        }

        void copyFrom(Directions other) {
            held = other.held;
            System.arraycopy(other.steps, 0, steps, 0, MOST_DIRECTIONS * MOST_VARIABLES);
            System.arraycopy(other.taken, 0, taken, 0, MOST_DIRECTIONS);
        }

        boolean has(int x, int y, int z) {
            for (int i = 0; i < held; i++) {
                int first = MOST_VARIABLES * i;
                if (steps[first] == x && steps[first + 1] == y && steps[first + 2] == z) {
                    return true;
                }
            }
            return false;
        }

        void add(int x, int y, int z) {
            if (held >= MOST_DIRECTIONS) {
                return;
            }
            steps[MOST_VARIABLES * held] = x;
            steps[MOST_VARIABLES * held + 1] = y;
            steps[MOST_VARIABLES * held + 2] = z;
            taken[held] = 0;
            held++;
        }

        void remove(int index) {
            if (index < 0 || index >= held) {
                return;
            }
            closeGap(taken, 1, index, held);
            closeGap(steps, MOST_VARIABLES, index, held);
            held--;
        }

        void forgetTaken() {
            for (int i = 0; i < MOST_DIRECTIONS; i++) {
                taken[i] = 0;
            }
        }
    }

    /** The place, the size of the mesh and the accounts of a search. */
    private static final class Search {
        final int[] place = new int[MOST_VARIABLES];
        int size;
        int polls;
        int successes;
        int looked;
        /** The direction of the latest success, or NO_DIRECTION. */
        int latest;
        int leftHeld;
        /** The places left by successes, the latest one first. */
        final int[] left = new int[MOST_LEFT * MOST_VARIABLES];
        /** Whether the latest poll was with the size 1 and had no success. */
        boolean ended;

        void begin(int x, int y, int z, int firstSize) {
            moveTo(x, y, z);
            size = firstSize;
            polls = 0;
            successes = 0;
            looked = 0;
            latest = NO_DIRECTION;
            leftHeld = 0;
            ended = false;
        }

        void copyFrom(Search other) {
            System.arraycopy(other.place, 0, place, 0, MOST_VARIABLES);
            size = other.size;
            polls = other.polls;
            successes = other.successes;
            looked = other.looked;
            latest = other.latest;
            leftHeld = other.leftHeld;
            System.arraycopy(other.left, 0, left, 0, MOST_LEFT * MOST_VARIABLES);
            ended = other.ended;
        }

        private void moveTo(int x, int y, int z) {
            place[0] = x;
            place[1] = y;
            place[2] = z;
        }

        void forgetDirection(int index) {
            if (latest == index) {
                latest = NO_DIRECTION;
            } else if (latest > index) {
                latest--;
            }
        }

        void succeed(int direction, int x, int y, int z) {
            System.arraycopy(left, 0, left, MOST_VARIABLES, (MOST_LEFT - 1) * MOST_VARIABLES);
            System.arraycopy(place, 0, left, 0, MOST_VARIABLES);
            leftHeld = Math.min(leftHeld + 1, MOST_LEFT);
            moveTo(x, y, z);
            size = Math.min(2 * size, MOST_SIZE);
            successes++;
            latest = direction;
            ended = false;
        }

        void fail() {
            ended = size == 1;
            size = Math.max(size / 2, 1);
        }
    }

    /** All that a change records: everything but the text and the snapshot. */
    private static final class State {
        int dimensions;
        int order;
        int way;
        final Terms terms = new Terms();
        final Bounds bounds = new Bounds();
        final Directions directions = new Directions();
        final Search search = new Search();

        void reset(int variables) {
            dimensions = variables;
            order = 0;
            way = 0;
            terms.held = 0;
            bounds.reset();
            directions.reset(variables);
            search.begin(0, 0, 0, FIRST_SIZE);
        }

        void copyFrom(State other) {
            dimensions = other.dimensions;
            order = other.order;
            way = other.way;
            terms.copyFrom(other.terms);
            bounds.copyFrom(other.bounds);
            directions.copyFrom(other.directions);
            search.copyFrom(other.search);
        }

        boolean hasVariable(int variable) {
            return within(variable, 0, dimensions - 1);
        }

        /** Whether the numbers are in the range, and 0 for variables that there are not. */
        boolean fit(int x, int y, int z, int least, int most) {
            return within(x, least, most) && within(y, least, most) && within(z, least, most)
                    && (dimensions > 1 || y == 0) && (dimensions > 2 || z == 0);
        }

        boolean placeIsAllowed() {
            return bounds.allow(search.place[0], search.place[1], search.place[2]);
        }

        boolean canPoll() {
            return placeIsAllowed() && directions.held > 0;
        }

        long valueHere() {
            return terms.sumAt(search.place[0], search.place[1], search.place[2], MOST_POWER);
        }

        int trialNumber(int direction, int variable, int size) {
            return search.place[variable] + size * directions.steps[MOST_VARIABLES * direction + variable];
        }

        /** Trials are looked at by these ranks, the least first, and by numbers where they are the same. */
        long rankOf(int direction, int x, int y, int z) {
            switch (order) {
                case 1:
                    return direction == search.latest ? 0 : 1;
                case 2:
                    return terms.sumAt(x, y, z, MOST_SIMPLER_POWER);
                default:
                    return 0;
            }
        }

        /** Returns the number of the direction that was taken, or NO_DIRECTION. */
        int pollOnce(Trials trials) {
            trials.gather(this, search.size);
            int direction = trials.chooseBetter(way);
            search.polls++;
            search.looked += trials.looked;
            if (direction == NO_DIRECTION) {
                search.fail();
                return NO_DIRECTION;
            }
            int size = search.size;
            directions.taken[direction]++;
            search.succeed(direction, trialNumber(direction, 0, size), trialNumber(direction, 1, size),
                    trialNumber(direction, 2, size));
            return direction;
        }
    }

    /** The trials of a poll that are allowed, in the order in which they are looked at. */
    private static final class Trials {
        int held;
        final int[] directions = new int[MOST_DIRECTIONS];
        final long[] ranks = new long[MOST_DIRECTIONS];
        final long[] values = new long[MOST_DIRECTIONS];
        long valueHere;
        int looked;

        void gather(State state, int size) {
            held = 0;
            valueHere = state.valueHere();
            for (int i = 0; i < state.directions.held; i++) {
                int x = state.trialNumber(i, 0, size);
                int y = state.trialNumber(i, 1, size);
                int z = state.trialNumber(i, 2, size);
                if (state.bounds.allow(x, y, z)) {
                    insert(i, state.rankOf(i, x, y, z), state.terms.sumAt(x, y, z, MOST_POWER));
                }
            }
        }

        private void insert(int direction, long rank, long value) {
            if (held >= MOST_DIRECTIONS) {
                return;
            }
            int at = held;
            while (at > 0 && ranks[at - 1] > rank) {
                directions[at] = directions[at - 1];
                ranks[at] = ranks[at - 1];
                values[at] = values[at - 1];
                at--;
            }
            directions[at] = direction;
            ranks[at] = rank;
            values[at] = value;
            held++;
        }

        boolean isBetter(int index) {
            return values[index] < valueHere;
        }

        boolean noneIsBetter() {
            for (int i = 0; i < held; i++) {
                if (isBetter(i)) {
                    return false;
                }
            }
            return true;
        }

        /** Looks at the trials; returns the direction of the one to take, or NO_DIRECTION. */
        int chooseBetter(int way) {
            int chosen = NO_DIRECTION;
            long least = valueHere;
            looked = 0;
            for (int i = 0; i < held; i++) {
                looked++;
                if (values[i] < least) {
                    chosen = directions[i];
                    least = values[i];
                    if (way == 0) {
                        break;
                    }
                }
            }
            return chosen;
        }
    }

    /** The best of the places around the place of the search. */
    private static final class Nearby {
        final int[] best = new int[MOST_VARIABLES];
        long least;

        /** Goes through the places by their numbers, so that the first of several with one value stays. */
        void findBest(State state, int many) {
            int manyY = state.dimensions > 1 ? many : 0;
            int manyZ = state.dimensions > 2 ? many : 0;
            least = VALUE_SHIFT;
            for (int a = -many; a <= many; a++) {
                for (int b = -manyY; b <= manyY; b++) {
                    for (int c = -manyZ; c <= manyZ; c++) {
                        consider(state, a, b, c);
                    }
                }
            }
        }

        private void consider(State state, int a, int b, int c) {
            Search search = state.search;
            int x = search.place[0] + a * search.size;
            int y = search.place[1] + b * search.size;
            int z = search.place[2] + c * search.size;
            if (!state.bounds.allow(x, y, z)) {
                return;
            }
            long value = state.terms.sumAt(x, y, z, MOST_POWER);
            if (value < least) {
                least = value;
                best[0] = x;
                best[1] = y;
                best[2] = z;
            }
        }
    }

    /**
     * Whether directions span. If they don't, some way of telling numbers (a normal) has no sum of
     * products above 0; then there is one that two directions which are no multiples of one another
     * settle (their cross product, or its opposite), or there are no two such directions at all. Both
     * ways along each variable that there is not are added, so that it is always about three variables.
     */
    private static final class Span {
        int held;
        final int[] rows = new int[(MOST_DIRECTIONS + 2 * MOST_VARIABLES) * MOST_VARIABLES];
        final int[] normal = new int[MOST_VARIABLES];

        boolean isWhole(Directions directions, int dimensions) {
            fill(directions, dimensions);
            boolean some = false;
            for (int i = 0; i < held; i++) {
                for (int j = i + 1; j < held; j++) {
                    if (findNormal(MOST_VARIABLES * i, MOST_VARIABLES * j)) {
                        some = true;
                        if (!hasRowsOnBothSides()) {
                            return false;
                        }
                    }
                }
            }
            return some;
        }

        private void fill(Directions directions, int dimensions) {
            held = directions.held;
            System.arraycopy(directions.steps, 0, rows, 0, MOST_VARIABLES * held);
            for (int k = dimensions; k < MOST_VARIABLES; k++) {
                addAlong(k, 1);
                addAlong(k, -1);
            }
        }

        private void addAlong(int variable, int step) {
            for (int k = 0; k < MOST_VARIABLES; k++) {
                rows[MOST_VARIABLES * held + k] = k == variable ? step : 0;
            }
            held++;
        }

        /** Takes the first elements of two rows; returns whether the normal is not all 0. */
        private boolean findNormal(int p, int q) {
            normal[0] = rows[p + 1] * rows[q + 2] - rows[p + 2] * rows[q + 1];
            normal[1] = rows[p + 2] * rows[q] - rows[p] * rows[q + 2];
            normal[2] = rows[p] * rows[q + 1] - rows[p + 1] * rows[q];
            return normal[0] != 0 || normal[1] != 0 || normal[2] != 0;
        }

        private boolean hasRowsOnBothSides() {
            boolean above = false;
            boolean below = false;
            for (int i = 0; i < held; i++) {
                int first = MOST_VARIABLES * i;
                int sum = normal[0] * rows[first] + normal[1] * rows[first + 1] + normal[2] * rows[first + 2];
                above = above || sum > 0;
                below = below || sum < 0;
            }
            return above && below;
        }
    }

    /** The latest states; four fields rather than an array, so that none can be null. */
    private static final class History {
        int held;
        final State first = new State();
        final State second = new State();
        final State third = new State();
        final State fourth = new State();

        /** The first one is the latest. */
        void push(State state) {
            fourth.copyFrom(third);
            third.copyFrom(second);
            second.copyFrom(first);
            first.copyFrom(state);
            held = Math.min(held + 1, MOST_STATES);
        }

        void giveBack(State state) {
            state.copyFrom(first);
            first.copyFrom(second);
            second.copyFrom(third);
            third.copyFrom(fourth);
            held--;
        }
    }

    /** The text, and what a scan of it as a function has found. */
    private static final class Text {
        int length;
        final int[] characters = new int[MOST_CHARACTERS];
        final Terms found = new Terms();
        int faultPlace;
        /** 0 as long as there is no fault. */
        int faultReason;
        private boolean negative;
        private int digits;
        private int number;
        private int letters;
        private final int[] powers = new int[MOST_VARIABLES];

        void append(int character) {
            if (length < MOST_CHARACTERS) {
                characters[length] = character;
                length++;
            }
        }

        /** Scans the text: finds the terms, or the first fault. */
        boolean isFunction(int dimensions) {
            found.held = 0;
            faultPlace = 0;
            faultReason = 0;
            beginTerm(false);
            for (int i = 0; i < length && faultReason == 0; i++) {
                scanCharacter(i, characters[i], dimensions);
            }
            if (faultReason == 0) {
                scanEnd();
            }
            return faultReason == 0;
        }

        private void scanCharacter(int place, int character, int dimensions) {
            if (within(character, 'x', 'z')) {
                scanLetter(place, character - 'x', dimensions);
            } else if (within(character, '0', '9')) {
                scanDigit(place, character - '0');
            } else if (character == '+' || character == '-') {
                scanSign(place, character == '-');
            } else {
                setFault(place, 1);
            }
        }

        private void scanLetter(int place, int variable, int dimensions) {
            if (variable >= dimensions) {
                setFault(place, 2);
            } else if (letters >= MOST_POWER) {
                setFault(place, 3);
            } else {
                letters++;
                powers[variable]++;
            }
        }

        private void scanDigit(int place, int digit) {
            if (letters > 0 || digits >= 2 || (digits == 0 && digit == 0)) {
                setFault(place, 1);
            } else {
                digits++;
                number = 10 * number + digit;
            }
        }

        private void scanSign(int place, boolean minus) {
            if (termIsEmpty()) {
                if (place == 0 && minus) {
                    negative = true;
                } else {
                    setFault(place, 1);
                }
            } else if (found.held + 1 >= MOST_TERMS) {
                setFault(place, 4);
            } else {
                endTerm();
                beginTerm(minus);
            }
        }

        private void scanEnd() {
            if (termIsEmpty()) {
                setFault(length, 1);
            } else {
                endTerm();
            }
        }

        private boolean termIsEmpty() {
            return digits == 0 && letters == 0;
        }

        private void beginTerm(boolean minus) {
            negative = minus;
            digits = 0;
            number = 0;
            letters = 0;
            for (int k = 0; k < MOST_VARIABLES; k++) {
                powers[k] = 0;
            }
        }

        private void endTerm() {
            int factor = digits == 0 ? 1 : number;
            found.add(negative ? -factor : factor, powers[0], powers[1], powers[2]);
        }

        private void setFault(int place, int reason) {
            faultPlace = place;
            faultReason = reason;
        }
    }
}
