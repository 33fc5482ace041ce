import java.io.IOException;
import java.lang.reflect.Method;
import java.lang.reflect.Modifier;
import java.nio.file.Files;
import java.nio.file.Path;
import java.util.ArrayList;
import java.util.List;
import java.util.TreeSet;
import java.util.regex.Matcher;
import java.util.regex.Pattern;

/**
 * The answers that the examples in README.md show, by making the very calls that stand there, and
 * the table of the methods. It is run in the directory in which README.md is.
 */
public final class ReadmeTest {
    private static final Checks CHECKS = new Checks();
    private static final String MAKING = "VerdictPages pages = new VerdictPages();";
    private static final Pattern CALL =
        Pattern.compile("pages\\.(\\w+)\\((.*)\\);(?:\\s+// (-?\\w+)(?:: .*)?)?");
    private static final Pattern ROW = Pattern.compile("\\| `(?:\\w+ )?(\\w+\\(.*?\\))` \\| .*\\|");

    private VerdictPages pages;
    private final TreeSet<String> called = new TreeSet<>();
    private int shownPages = 0;

    public static void main(String[] args) throws IOException, ReflectiveOperationException {
        List<String> readme = Files.readAllLines(Path.of("README.md"));
        tableOfMethods(readme);
        new ReadmeTest().examples(readme);
        CHECKS.end();
    }

    private static void tableOfMethods(List<String> readme) {
        CHECKS.about("README.md", "the table of the methods");
        TreeSet<String> rows = new TreeSet<>();
        for (String line : readme) {
            Matcher row = ROW.matcher(line);
            if (row.matches()) {
                String typesAlone = row.group(1).replaceAll("(int|char) \\w+", "$1").replace(" ", "");
                CHECKS.due("the first row of " + typesAlone, true, rows.add(typesAlone));
            }
        }
        TreeSet<String> face = new TreeSet<>();
        face.add("VerdictPages()");
        for (Method method : publicMethods()) {
            List<String> types = new ArrayList<>();
            for (Class<?> type : method.getParameterTypes()) {
                types.add(type.getName());
            }
            face.add(method.getName() + "(" + String.join(",", types) + ")");
        }
        CHECKS.due("its rows", String.join("\n", face) + "\n", String.join("\n", rows) + "\n");
    }

    /** Does the blocks in turn: one of Java makes calls, one of text shows the page after them. */
    private void examples(List<String> readme) throws ReflectiveOperationException {
        CHECKS.about("README.md", "the examples");
        for (int i = 0; i < readme.size(); i++) {
            if (readme.get(i).startsWith("```")) {
                int end = i + 1 + readme.subList(i + 1, readme.size()).indexOf("```");
                List<String> block = readme.subList(i + 1, end);
                if (readme.get(i).equals("```java")) {
                    makeCalls(block);
                } else if (readme.get(i).equals("```text")) {
                    shownPages++;
                    CHECKS.due("the page", String.join("\n", block) + "\n", Checks.pageOf(pages));
                }
                i = end;
            }
        }
        TreeSet<String> face = new TreeSet<>();
        publicMethods().forEach(method -> face.add(method.getName()));
        CHECKS.due("the methods called", face + "\n", called + "\n");
        CHECKS.due("pages shown", 1, shownPages);
    }

    private void makeCalls(List<String> block) throws ReflectiveOperationException {
        for (String line : block) {
            Matcher call = CALL.matcher(line);
            if (line.equals(MAKING)) {
                pages = new VerdictPages();
            } else if (call.matches()) {
                makeCall(line, call.group(1), call.group(2), call.group(3));
            } else {
                CHECKS.due("a call that can be made: " + line, true, false);
            }
        }
    }

    private void makeCall(String line, String name, String arguments, String shown)
            throws ReflectiveOperationException {
        for (Method method : publicMethods()) {
            if (method.getName().equals(name)) {
                called.add(name);
                Object answer = method.invoke(pages, valuesOf(arguments));
                CHECKS.due(line, (method.getReturnType() == void.class ? null : shown) + "\n", answer + "\n");
                return;
            }
        }
        CHECKS.due("a method of the face: " + line, true, false);
    }

    private static Object[] valuesOf(String arguments) {
        List<Object> values = new ArrayList<>();
        for (String argument : arguments.isEmpty() ? new String[0] : arguments.split(", ")) {
            if (argument.equals("'\\n'")) {
                values.add('\n');
            } else if (argument.matches("'.'")) {
                values.add(argument.charAt(1));
            } else {
                values.add(Integer.valueOf(argument));
            }
        }
        return values.toArray();
    }

    private static List<Method> publicMethods() {
        List<Method> methods = new ArrayList<>();
        for (Method method : VerdictPages.class.getDeclaredMethods()) {
            if (Modifier.isPublic(method.getModifiers())) {
                methods.add(method);
            }
        }
        return methods;
    }
}
