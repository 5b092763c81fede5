import java.math.BigInteger;
import java.util.ArrayList;
import java.util.Comparator;
import java.util.List;
import java.util.regex.Matcher;
import java.util.regex.Pattern;

/**
 * The document once more, as plainly as the Java library lets it be said, to compare PollMeshes with.
 * It holds states by copying lists, follows directions as objects rather than by numbers, finds the
 * faults of texts by patterns, and spans by solving for each unit place.
 */
final class Model {
    private static final int INVALID = -1000001;
    private static final int IMPOSSIBLE = -1000002;
    private static final int LIMIT = -1000003;
    private static final int NOTHING = -1000004;

    private static final Pattern VIABLE =
            Pattern.compile("-?(([1-9][0-9]?[xyz]*|[xyz]+)[+-])*([1-9][0-9]?[xyz]*|[xyz]+)?");
    private static final Pattern WHOLE =
            Pattern.compile("-?([1-9][0-9]?[xyz]*|[xyz]+)([+-]([1-9][0-9]?[xyz]*|[xyz]+))*");
    private static final Pattern ONE_TERM = Pattern.compile("([+-]?)([0-9]*)([xyz]*)");

    private record Term(int factor, int[] powers) {
        int degree() {
            return powers[0] + powers[1] + powers[2];
        }

        BigInteger at(int[] place) {
            BigInteger product = BigInteger.valueOf(factor);
            for (int k = 0; k < 3; k++) {
                product = product.multiply(BigInteger.valueOf(place[k]).pow(powers[k]));
            }
            return product;
        }
    }

    /** Not a record: the same numbers, added again, are another direction. */
    private static final class Direction {
        final int[] steps;

        Direction(int[] steps) {
            this.steps = steps;
        }

        int[] from(int[] place, int size) {
            int[] trial = new int[3];
            for (int k = 0; k < 3; k++) {
                trial[k] = place[k] + size * steps[k];
            }
            return trial;
        }
    }

    /** A list that is only ever replaced makes a state that can be kept by copying its fields. */
    private static final class State implements Cloneable {
        int n;
        List<Term> terms = List.of();
        int[] low = {-50, -50, -50};
        int[] high = {50, 50, 50};
        List<Direction> directions = List.of();
        int order;
        int way;
        int[] place = new int[3];
        int size = 4;
        int polls;
        int looked;
        /** The directions of all successes, and the places that they left, the latest ones last. */
        List<Direction> successes = List.of();
        List<int[]> left = List.of();
        boolean ended;

        State(int n) {
            this.n = n;
            for (int k = 0; k < n; k++) {
                for (int step = 1; step >= -1; step -= 2) {
                    int[] steps = new int[3];
                    steps[k] = step;
                    directions = with(directions, new Direction(steps));
                }
            }
        }

        State copy() {
            try {
                State other = (State) clone();
                other.low = low.clone();
                other.high = high.clone();
                return other;
            } catch (CloneNotSupportedException e) {
                throw new IllegalStateException(e);
            }
        }

        BigInteger valueAt(int[] at, int degree) {
            return terms.stream().filter(t -> t.degree() <= degree).map(t -> t.at(at))
                    .reduce(BigInteger.ZERO, BigInteger::add);
        }

        boolean allows(int[] at) {
            for (int k = 0; k < n; k++) {
                if (at[k] < low[k] || at[k] > high[k]) {
                    return false;
                }
            }
            return true;
        }

        Direction latest() {
            Direction last = successes.isEmpty() ? null : successes.get(successes.size() - 1);
            return last != null && directions.contains(last) ? last : null;
        }

        /** The directions of the trials that are allowed, in their order. */
        List<Direction> trials(int meshSize) {
            List<Direction> list = new ArrayList<>(directions);
            list.removeIf(d -> !allows(d.from(place, meshSize)));
            if (order == 1 && list.remove(latest())) {
                list.add(0, latest());
            }
            if (order == 2) {
                list.sort(Comparator.comparing(d -> valueAt(d.from(place, meshSize), 2)));
            }
            return list;
        }

        boolean isBetter(Direction d, int meshSize) {
            return valueAt(d.from(place, meshSize), 4).compareTo(valueAt(place, 4)) < 0;
        }

        int poll() {
            List<Direction> trials = trials(size);
            List<Direction> better = trials.stream().filter(d -> isBetter(d, size)).toList();
            polls++;
            ended = better.isEmpty() && size == 1;
            if (better.isEmpty()) {
                looked += trials.size();
                size = size == 1 ? 1 : size / 2;
                return -1;
            }
            Direction taken = better.get(0);
            if (way == 1) {
                for (Direction d : better) {
                    if (valueAt(d.from(place, size), 4).compareTo(valueAt(taken.from(place, size), 4)) < 0) {
                        taken = d;
                    }
                }
            }
            looked += way == 1 ? trials.size() : trials.indexOf(taken) + 1;
            left = with(left, place);
            successes = with(successes, taken);
            place = taken.from(place, size);
            size = size == 16 ? 16 : size * 2;
            return directions.indexOf(taken);
        }
    }

    private State now = new State(2);
    private State snapshot;
    private List<State> history = List.of();
    private String text = "";

    private static <T> List<T> with(List<T> list, T one) {
        List<T> longer = new ArrayList<>(list);
        longer.add(one);
        return longer;
    }

    private static <T> List<T> without(List<T> list, int index) {
        List<T> shorter = new ArrayList<>(list);
        shorter.remove(index);
        return shorter;
    }

    private void record() {
        history = with(history, now.copy());
        if (history.size() > 4) {
            history = without(history, 0);
        }
    }

    private boolean bad(int least, int most, int... numbers) {
        for (int k = 0; k < 3; k++) {
            if (numbers[k] < least || numbers[k] > most || (k >= now.n && numbers[k] != 0)) {
                return true;
            }
        }
        return false;
    }

    int variables(int n) {
        if (n < 1 || n > 3) {
            return INVALID;
        }
        record();
        int before = now.n;
        now = new State(n);
        return before;
    }

    int term(int factor, int x, int y, int z) {
        if (factor == 0 || factor < -99 || factor > 99 || bad(0, 4, x, y, z) || x + y + z > 4) {
            return INVALID;
        }
        if (now.terms.size() == 10) {
            return LIMIT;
        }
        record();
        now.terms = with(now.terms, new Term(factor, new int[] {x, y, z}));
        return now.terms.size();
    }

    int dropTerm(int index) {
        if (index < 0) {
            return INVALID;
        }
        if (index >= now.terms.size()) {
            return IMPOSSIBLE;
        }
        record();
        int factor = now.terms.get(index).factor();
        now.terms = without(now.terms, index);
        return factor;
    }

    int bound(int variable, int low, int high) {
        if (variable < 0 || variable >= now.n || low < -50 || low > 50 || high < low || high > 50) {
            return INVALID;
        }
        record();
        now.low[variable] = low;
        now.high[variable] = high;
        return now.allows(now.place) ? 1 : 0;
    }

    int direction(int x, int y, int z) {
        if (bad(-3, 3, x, y, z) || (x == 0 && y == 0 && z == 0)) {
            return INVALID;
        }
        for (Direction d : now.directions) {
            if (d.steps[0] == x && d.steps[1] == y && d.steps[2] == z) {
                return IMPOSSIBLE;
            }
        }
        if (now.directions.size() == 8) {
            return LIMIT;
        }
        record();
        now.directions = with(now.directions, new Direction(new int[] {x, y, z}));
        return now.directions.size() - 1;
    }

    int dropDirection(int index) {
        if (index < 0) {
            return INVALID;
        }
        if (index >= now.directions.size()) {
            return IMPOSSIBLE;
        }
        record();
        now.directions = without(now.directions, index);
        return now.directions.size();
    }

    int start(int x, int y, int z, int size) {
        if (bad(-50, 50, x, y, z) || size < 0 || size > 4) {
            return INVALID;
        }
        record();
        now.place = new int[] {x, y, z};
        now.size = (int) Math.pow(2, size);
        now.polls = 0;
        now.looked = 0;
        now.successes = List.of();
        now.left = List.of();
        now.ended = false;
        return now.allows(now.place) ? 1 : 0;
    }

    int order(int order, int way) {
        if (order < 0 || order > 2 || way < 0 || way > 1) {
            return INVALID;
        }
        record();
        int before = 10 * now.order + now.way;
        now.order = order;
        now.way = way;
        return before;
    }

    private boolean cannotPoll() {
        return !now.allows(now.place) || now.directions.isEmpty();
    }

    int poll() {
        if (cannotPoll()) {
            return IMPOSSIBLE;
        }
        record();
        return now.poll();
    }

    int run(int many) {
        if (many < 1 || many > 60) {
            return INVALID;
        }
        if (cannotPoll()) {
            return IMPOSSIBLE;
        }
        record();
        for (int polls = 1; polls < many; polls++) {
            now.poll();
            if (now.ended) {
                return polls;
            }
        }
        now.poll();
        return many;
    }

    long value(int x, int y, int z, int simpler) {
        if (bad(-50, 50, x, y, z) || simpler < 0 || simpler > 1) {
            return INVALID;
        }
        int[] place = {x, y, z};
        return now.valueAt(place, simpler == 1 ? 2 : 4).longValueExact() + 20000000000L;
    }

    int termOf(int index, int what) {
        if (index < 0 || what < 0 || what > 3) {
            return INVALID;
        }
        if (index >= now.terms.size()) {
            return NOTHING;
        }
        Term term = now.terms.get(index);
        return what == 0 ? term.factor() : term.powers()[what - 1];
    }

    int directionOf(int index, int what) {
        if (index < 0 || what < 0 || what > 3) {
            return INVALID;
        }
        if (index >= now.directions.size()) {
            return NOTHING;
        }
        Direction direction = now.directions.get(index);
        if (what < 3) {
            return direction.steps[what];
        }
        return (int) now.successes.stream().filter(d -> d == direction).count();
    }

    int searchOf(int what) {
        if (what < 0 || what > 9) {
            return INVALID;
        }
        if (what < 3) {
            return now.place[what];
        }
        return switch (what) {
            case 3 -> now.size;
            case 4 -> now.polls;
            case 5 -> now.successes.size();
            case 6 -> now.looked;
            case 7 -> now.latest() == null ? NOTHING : now.directions.indexOf(now.latest());
            case 8 -> Math.min(6, now.left.size());
            default -> now.ended ? 1 : 0;
        };
    }

    int leftAt(int index, int variable) {
        if (index < 0 || variable < 0 || variable >= now.n) {
            return INVALID;
        }
        if (index >= 6 || index >= now.left.size()) {
            return NOTHING;
        }
        return now.left.get(now.left.size() - 1 - index)[variable];
    }

    int count(int what) {
        if (what >= 10 && what < 10 + now.n) {
            return now.low[what - 10];
        }
        if (what >= 20 && what < 20 + now.n) {
            return now.high[what - 20];
        }
        return switch (what) {
            case 0 -> now.n;
            case 1 -> now.terms.size();
            case 2 -> now.directions.size();
            case 3 -> now.order;
            case 4 -> now.way;
            case 5 -> history.size();
            case 6 -> text.length();
            case 7 -> snapshot == null ? 0 : 1;
            default -> INVALID;
        };
    }

    int trialOf(int index, int what) {
        if (index < 0 || what < 0 || what > 1) {
            return INVALID;
        }
        List<Direction> trials = now.trials(now.size);
        if (index >= trials.size()) {
            return NOTHING;
        }
        Direction direction = trials.get(index);
        return what == 0 ? now.directions.indexOf(direction) : now.isBetter(direction, now.size) ? 1 : 0;
    }

    /** They span if each unit place and its opposite is a sum of n or fewer directions. */
    int spans() {
        for (int k = 0; k < now.n; k++) {
            for (int sign = -1; sign <= 1; sign += 2) {
                int[] unit = new int[3];
                unit[k] = sign;
                if (!isSum(unit)) {
                    return 0;
                }
            }
        }
        return 1;
    }

    private boolean isSum(int[] unit) {
        int many = now.directions.size();
        for (int i = 0; i < many; i++) {
            for (int j = now.n > 1 ? i + 1 : 0; j < (now.n > 1 ? many : 1); j++) {
                for (int k = now.n > 2 ? j + 1 : 0; k < (now.n > 2 ? many : 1); k++) {
                    if (isSumOf(unit, row(i, 0), row(j, 1), row(k, 2))) {
                        return true;
                    }
                }
            }
        }
        return false;
    }

    /** The direction, or a unit place for a variable that there is not. */
    private int[] row(int index, int variable) {
        if (variable < now.n) {
            return now.directions.get(index).steps;
        }
        int[] unit = new int[3];
        unit[variable] = 1;
        return unit;
    }

    private static boolean isSumOf(int[] sum, int[] a, int[] b, int[] c) {
        int whole = determinant(a, b, c);
        return whole != 0 && determinant(sum, b, c) * whole >= 0 && determinant(a, sum, c) * whole >= 0
                && determinant(a, b, sum) * whole >= 0;
    }

    private static int determinant(int[] a, int[] b, int[] c) {
        return a[0] * (b[1] * c[2] - b[2] * c[1]) - a[1] * (b[0] * c[2] - b[2] * c[0])
                + a[2] * (b[0] * c[1] - b[1] * c[0]);
    }

    int stuck(int size) {
        if (size < 0 || size > 4) {
            return INVALID;
        }
        if (!now.allows(now.place)) {
            return IMPOSSIBLE;
        }
        int meshSize = (int) Math.pow(2, size);
        return now.trials(meshSize).stream().anyMatch(d -> now.isBetter(d, meshSize)) ? 0 : 1;
    }

    int around(int many, int what) {
        if (many < 0 || many > 3 || what < 0 || what > 2) {
            return INVALID;
        }
        if (!now.allows(now.place)) {
            return IMPOSSIBLE;
        }
        int wide = 2 * many + 1;
        List<int[]> places = new ArrayList<>();
        for (int i = 0; i < wide * wide * wide; i++) {
            int[] steps = {i % wide - many, i / wide % wide - many, i / wide / wide - many};
            boolean flat = (now.n > 1 || steps[1] == 0) && (now.n > 2 || steps[2] == 0);
            int[] place = new Direction(steps).from(now.place, now.size);
            if (flat && now.allows(place)) {
                places.add(place);
            }
        }
        Comparator<int[]> byValue = Comparator.comparing(p -> now.valueAt(p, 4));
        return places.stream().min(byValue.thenComparing(p -> p[0]).thenComparing(p -> p[1])
                .thenComparing(p -> p[2])).orElseThrow()[what];
    }

    int keep() {
        snapshot = now.copy();
        return now.terms.size();
    }

    int restore() {
        if (snapshot == null) {
            return IMPOSSIBLE;
        }
        record();
        now = snapshot.copy();
        return now.terms.size();
    }

    int undo() {
        if (history.isEmpty()) {
            return IMPOSSIBLE;
        }
        now = history.get(history.size() - 1);
        history = without(history, history.size() - 1);
        return history.size();
    }

    int type(int character) {
        if (character < 32 || character > 126) {
            return INVALID;
        }
        if (text.length() == 60) {
            return LIMIT;
        }
        text += (char) character;
        return text.length();
    }

    int clearText() {
        int before = text.length();
        text = "";
        return before;
    }

    /** The place and the reason of the fault, or null. */
    private int[] findFault() {
        for (int i = 0; i < text.length(); i++) {
            String start = text.substring(0, i + 1);
            char last = text.charAt(i);
            if (!VIABLE.matcher(start).matches()) {
                return new int[] {i, 1};
            }
            if (last >= 'x' && last - 'x' >= now.n) {
                return new int[] {i, 2};
            }
            if (start.matches(".*[xyz]{5}")) {
                return new int[] {i, 3};
            }
            if (start.matches(".+[+-]") && start.substring(1).replaceAll("[^+-]", "").length() == 10) {
                return new int[] {i, 4};
            }
        }
        return WHOLE.matcher(text).matches() ? null : new int[] {text.length(), 1};
    }

    int fault(int what) {
        if (what < 0 || what > 1) {
            return INVALID;
        }
        int[] fault = findFault();
        return fault == null ? NOTHING : fault[what];
    }

    int read() {
        if (findFault() != null) {
            return IMPOSSIBLE;
        }
        record();
        now.terms = List.of();
        Matcher matcher = ONE_TERM.matcher(text);
        while (matcher.find() && !matcher.group().isEmpty()) {
            int number = matcher.group(2).isEmpty() ? 1 : Integer.parseInt(matcher.group(2));
            int[] powers = new int[3];
            for (char letter : matcher.group(3).toCharArray()) {
                powers[letter - 'x']++;
            }
            now.terms = with(now.terms, new Term(matcher.group(1).equals("-") ? -number : number, powers));
        }
        return now.terms.size();
    }
}
