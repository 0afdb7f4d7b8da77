import java.io.IOException;
import java.lang.reflect.InvocationTargetException;
import java.lang.reflect.Method;
import java.lang.reflect.Modifier;
import java.nio.file.Files;
import java.nio.file.Path;
import java.util.regex.Matcher;
import java.util.regex.Pattern;

/** README.md tells each method of the face once, and its example answers what it says. */
public final class ReadmeTest {
    private static final Pattern FACE = Pattern.compile("public (?:int|long) (\\w+)\\(([^)]*)\\)");
    private static final Pattern CALL =
        Pattern.compile("finder\\.(\\w+)\\(([^)]*)\\);\\s+// (throws \\w+|-?\\d+)(?::.*)?");

    public static void main(String[] args) throws IOException, IllegalAccessException {
        Check check = new Check("ReadmeTest");
        String page = Files.readString(Path.of("README.md"));
        String document = Files.readString(Path.of("..", "shared", "DOC.md"));
        namesEachMethod(check, page, document);
        runsItsExample(check, page);
        check.end();
    }

    private static void namesEachMethod(Check check, String page, String document) {
        Matcher method = FACE.matcher(document);
        int methods = 0;
        while (method.find()) {
            String names = method.group(2).replaceAll("(?:int|boolean) ", "");
            String row = "| `" + method.group(1) + "(" + names + ")` |";
            check.due("rows of " + row, page.split(Pattern.quote(row), -1).length - 1, 1);
            methods++;
        }
        check.due("methods of the face", methods, LineFinder.class.getDeclaredMethods().length - privateMethods());
    }

    private static int privateMethods() {
        int found = 0;
        for (Method m : LineFinder.class.getDeclaredMethods()) {
            if (Modifier.isPrivate(m.getModifiers())) {
                found++;
            }
        }
        return found;
    }

    private static void runsItsExample(Check check, String page) throws IllegalAccessException {
        int from = page.indexOf("```java\n") + 8;
        String[] lines = page.substring(from, page.indexOf("```", from)).split("\n");
        check.due("first line", lines[0], "LineFinder finder = new LineFinder();");
        LineFinder finder = new LineFinder();
        for (int i = 1; i < lines.length; i++) {
            Matcher call = CALL.matcher(lines[i]);
            boolean isCall = call.matches();
            check.due("is a call with its answer: " + lines[i], isCall ? 1 : 0, 1);
            if (isCall) {
                check.due(lines[i], answer(finder, call.group(1), call.group(2)), call.group(3));
            }
        }
    }

    private static String answer(LineFinder finder, String name, String given) throws IllegalAccessException {
        for (Method m : LineFinder.class.getMethods()) {
            if (m.getName().equals(name)) {
                try {
                    return String.valueOf(m.invoke(finder, values(m, given)));
                } catch (InvocationTargetException thrown) {
                    return "throws " + thrown.getCause().getClass().getSimpleName();
                }
            }
        }
        return "no such method";
    }

    private static Object[] values(Method method, String given) {
        String[] texts = given.isEmpty() ? new String[0] : given.split(", ");
        Object[] values = new Object[texts.length];
        for (int i = 0; i < texts.length; i++) {
            boolean isNumber = method.getParameterTypes()[i] == int.class;
            values[i] = isNumber ? (Object) Integer.valueOf(texts[i]) : (Object) Boolean.valueOf(texts[i]);
        }
        return values;
    }
}
