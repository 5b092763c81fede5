import java.lang.reflect.InvocationTargetException;
import java.lang.reflect.Method;
import java.util.Arrays;
import java.util.Comparator;
import java.util.regex.Matcher;
import java.util.regex.Pattern;

/**
 * The boundary cases. Each method of the classes told here whose name is "promise", a number and some words
 * is the test of one of them, on a new object; each promise has at least one.
 */
final class Edges {
    private static final Class<?>[] GROUPS = {FunctionsEdges.class, DirectionsEdges.class, SearchEdges.class,
        PollEdges.class, ViewsEdges.class, WouldBeEdges.class, StatesEdges.class, TextsEdges.class};
    private static final Pattern NAME = Pattern.compile("promise(\\d+)[A-Z].*");
    private static final int PROMISES = 28;

    private Edges() {
    }

    static void check(Due due) {
        int[] tests = new int[PROMISES + 1];
        int all = 0;
        for (Class<?> group : GROUPS) {
            Method[] methods = group.getDeclaredMethods();
            Arrays.sort(methods, Comparator.comparing(Method::getName));
            for (Method method : methods) {
                Matcher matcher = NAME.matcher(method.getName());
                if (matcher.matches()) {
                    perform(due, method);
                    tests[Integer.parseInt(matcher.group(1))]++;
                    all++;
                }
            }
        }
        for (int i = 1; i <= PROMISES; i++) {
            due.same("edges", "promise " + i + " has a test", tests[i] > 0 ? 1 : 0, 1);
        }
        System.out.println("boundary cases, each with a test of its own: " + all);
    }

    private static void perform(Due due, Method test) {
        int before = due.right() + due.wrong();
        try {
            test.invoke(null, new Calls(due, test.getName()));
        } catch (InvocationTargetException e) {
            due.same(test.getName(), "it threw " + e.getCause(), 1, 0);
        } catch (IllegalAccessException e) {
            throw new IllegalStateException(e);
        }
        due.same(test.getName(), "it checks something", due.right() + due.wrong() > before ? 1 : 0, 1);
    }
}
