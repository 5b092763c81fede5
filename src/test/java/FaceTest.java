import java.lang.reflect.Constructor;
import java.lang.reflect.Field;
import java.lang.reflect.Member;
import java.lang.reflect.Method;
import java.lang.reflect.Modifier;
import java.util.Set;
import java.util.TreeSet;

/** The public face: what is public is what the document tells, and all else is private. */
final class FaceTest {
    private static final Set<String> METHODS = Set.of(
            "int variables(int)", "int term(int,int,int,int)", "int dropTerm(int)", "int bound(int,int,int)",
            "int direction(int,int,int)", "int dropDirection(int)", "int start(int,int,int,int)",
            "int order(int,int)", "int poll()", "int run(int)", "long value(int,int,int,int)",
            "int termOf(int,int)", "int directionOf(int,int)", "int searchOf(int)", "int leftAt(int,int)",
            "int count(int)", "int trialOf(int,int)", "int spans()", "int stuck(int)", "int around(int,int)",
            "int keep()", "int restore()", "int undo()", "int type(int)", "int clearText()", "int fault(int)",
            "int read()");
    private static final Set<String> CONSTANTS =
            Set.of("INVALID_ARGUMENT", "NOT_POSSIBLE", "LIMIT_REACHED", "NOT_FOUND");

    private FaceTest() {
    }

    static void check(Due due) {
        String test = "the face";
        Set<String> methods = new TreeSet<>();
        for (Method method : PollMeshes.class.getDeclaredMethods()) {
            if (isOpen(method)) {
                methods.add(signature(method));
            }
        }
        due.same(test, "open methods " + methods, methods.equals(METHODS) ? 1 : 0, 1);
        Set<String> fields = new TreeSet<>();
        for (Field field : PollMeshes.class.getDeclaredFields()) {
            if (isOpen(field)) {
                fields.add(field.getName());
            }
        }
        due.same(test, "open fields " + fields, fields.equals(CONSTANTS) ? 1 : 0, 1);
        Constructor<?>[] constructors = PollMeshes.class.getDeclaredConstructors();
        due.same(test, "constructors", constructors.length, 1);
        due.same(test, "public constructor", Modifier.isPublic(constructors[0].getModifiers()) ? 1 : 0, 1);
        int whole = Modifier.PUBLIC | Modifier.FINAL;
        due.same(test, "modifiers of the class", PollMeshes.class.getModifiers(), whole);
        for (Class<?> inside : PollMeshes.class.getDeclaredClasses()) {
            due.same(test, inside + " is static", Modifier.isStatic(inside.getModifiers()) ? 1 : 0, 1);
        }
        due.same(test, "INVALID_ARGUMENT", PollMeshes.INVALID_ARGUMENT, -1000001);
        due.same(test, "NOT_POSSIBLE", PollMeshes.NOT_POSSIBLE, -1000002);
        due.same(test, "LIMIT_REACHED", PollMeshes.LIMIT_REACHED, -1000003);
        due.same(test, "NOT_FOUND", PollMeshes.NOT_FOUND, -1000004);
    }

    private static boolean isOpen(Member member) {
        return !Modifier.isPrivate(member.getModifiers()) && !member.isSynthetic();
    }

    private static String signature(Method method) {
        StringBuilder text = new StringBuilder();
        text.append(method.getReturnType()).append(' ').append(method.getName()).append('(');
        Class<?>[] parameters = method.getParameterTypes();
        for (int i = 0; i < parameters.length; i++) {
            text.append(i == 0 ? "" : ",").append(parameters[i]);
        }
        return text.append(')').toString();
    }
}
