import java.io.IOException;
import java.lang.reflect.Method;
import java.lang.reflect.Modifier;
import java.nio.file.Files;
import java.nio.file.Path;
import java.util.ArrayList;
import java.util.List;
import java.util.regex.Matcher;
import java.util.regex.Pattern;

/**
 * Prints a program, ReadmeRun, that runs each piece of Java in README.md twice: as it stands, so that it is
 * Java that one can copy, and with a check of each answer that a comment tells.
 */
final class ReadmeProgram {
    private static final Pattern TELLS_ANSWER =
            Pattern.compile("\\s*(?:(?:int|long) (\\w+) = )?(.+);\\s+// (-?\\d+|[A-Z]+_[A-Z]+)(?::.*)?");

    private ReadmeProgram() {
    }

    public static void main(String[] args) throws IOException {
        List<String> page = Files.readAllLines(Path.of(args[0]));
        boolean whole = namesEachCall(page);
        print(pieces(page));
        if (!whole) {
            System.exit(1);
        }
    }

    private static boolean namesEachCall(List<String> page) {
        boolean whole = true;
        for (Method method : PollMeshes.class.getDeclaredMethods()) {
            String row = "| `" + method.getName() + "(";
            if (Modifier.isPublic(method.getModifiers()) && page.stream().noneMatch(line -> line.startsWith(row))) {
                System.err.println("README.md: the table leaves out " + method.getName());
                whole = false;
            }
        }
        return whole;
    }

    private static List<List<String>> pieces(List<String> page) {
        List<List<String>> pieces = new ArrayList<>();
        List<String> piece = null;
        for (String line : page) {
            if (line.equals("```java")) {
                piece = new ArrayList<>();
                pieces.add(piece);
            } else if (line.equals("```")) {
                piece = null;
            } else if (piece != null) {
                piece.add(line);
            }
        }
        return pieces;
    }

    private static void print(List<List<String>> pieces) {
        System.out.println("public final class ReadmeRun {");
        System.out.println("    private static int right;");
        System.out.println("    private static int wrong;");
        System.out.println("    private static void due(String code, long got, long want) {");
        System.out.println("        if (got == want) { right++; return; }");
        System.out.println("        wrong++;");
        System.out.println("        System.out.println(code + \" answered \" + got + \", README.md tells \" + want);");
        System.out.println("    }");
        for (int i = 0; i < pieces.size(); i++) {
            System.out.println("    private static void shown" + i + "() {");
            pieces.get(i).forEach(System.out::println);
            System.out.println("    }");
            System.out.println("    private static void checked" + i + "() {");
            pieces.get(i).forEach(line -> System.out.println(checked(line)));
            System.out.println("    }");
        }
        System.out.println("    public static void main(String[] args) {");
        for (int i = 0; i < pieces.size(); i++) {
            System.out.println("        shown" + i + "();");
            System.out.println("        checked" + i + "();");
        }
        System.out.println("        System.out.println(\"answers of README.md as due: \" + right);");
        System.out.println("        if (wrong > 0 || right == 0) { System.exit(1); }");
        System.out.println("    }");
        System.out.println("}");
    }

    /** The line with a check of its answer, or as it is if it tells none. */
    private static String checked(String line) {
        Matcher matcher = TELLS_ANSWER.matcher(line);
        if (!matcher.matches()) {
            return line;
        }
        String name = matcher.group(1);
        String code = matcher.group(2);
        String answer = matcher.group(3);
        String want = Character.isLetter(answer.charAt(0)) ? "PollMeshes." + answer : answer + "L";
        String quoted = code.replace("\\", "\\\\").replace("\"", "\\\"");
        String check = "due(\"" + quoted + "\", " + (name == null ? code : name) + ", " + want + ");";
        return name == null ? check : line + "\n" + check;
    }
}
