import java.io.IOException;
import java.lang.reflect.InvocationTargetException;
import java.lang.reflect.Method;
import java.lang.reflect.Modifier;
import java.nio.file.DirectoryStream;
import java.nio.file.Files;
import java.nio.file.Path;
import java.util.Map;
import java.util.regex.Matcher;
import java.util.regex.Pattern;

/** That README.md says what is so: it is read here, and its calls are done as they stand there. */
public final class ReadmeTest {
    private static final Path PAGE = Path.of("README.md");
    private static final Path TESTS = Path.of("src/test/java");
    private static final String MADE = "Pagewright x = new Pagewright();";
    private static final Pattern EXAMPLE = Pattern.compile("(?s)```java\n(.*?)```");
    private static final Pattern CALL =
            Pattern.compile("x\\.(\\w+)\\((.*)\\); +// (-?\\d+|nothing|throws \\w+)(?:|: .*)");
    private static final Pattern ROW = Pattern.compile("(?m)^\\| `(\\w+)\\((.*?)\\)` \\| .+ \\| ([IAS ]+) \\|$");
    private static final Map<String, String> LETTERS = Map.of("IndexOutOfBoundsException", "I",
            "IllegalArgumentException", "A", "IllegalStateException", "S");

    private ReadmeTest() {
    }

    public static void main(String[] args) throws IOException, IllegalAccessException {
        String page = Files.readString(PAGE);
        calls(page);
        table(page);
        names(page);
        Check.finish("ReadmeTest");
    }

    // ---- the calls that stand there with their answers

    private static void calls(String page) throws IllegalAccessException {
        Matcher example = EXAMPLE.matcher(page);
        int done = 0;
        int thrown = 0;
        while (example.find()) {
            Pagewright x = new Pagewright();
            for (String line : example.group(1).split("\n")) {
                Matcher call = CALL.matcher(line);
                boolean isCall = call.matches();
                Check.due("whether \"" + line + "\" is a call", isCall || line.equals(MADE) ? 1 : 0, 1);
                if (isCall) {
                    String answer = answer(x, call.group(1), call.group(2).split(", "));
                    Check.due(call.group(1) + "(" + call.group(2) + ")", answer, call.group(3));
                    done++;
                    thrown += answer.startsWith("throws") ? 1 : 0;
                }
            }
        }
        Check.due("whether there are a few calls", done >= 5 ? 1 : 0, 1);
        Check.due("whether there is one for each exception", thrown >= LETTERS.size() ? 1 : 0, 1);
    }

    private static String answer(Pagewright x, String name, String[] given) throws IllegalAccessException {
        Method method = method(name);
        if (method == null || method.getParameterCount() != given.length) {
            return "that there is no such call";
        }
        Object[] values = new Object[given.length];
        for (int i = 0; i < given.length; i++) {
            values[i] = value(given[i], method.getParameterTypes()[i]);
        }
        try {
            Object answer = method.invoke(x, values);
            return answer == null ? "nothing" : answer.toString();
        } catch (InvocationTargetException e) {
            return "throws " + e.getCause().getClass().getSimpleName();
        }
    }

    private static Object value(String text, Class<?> type) throws IllegalAccessException {
        if (type == boolean.class) {
            return Boolean.valueOf(text);
        }
        if (!text.startsWith("Pagewright.")) {
            return Integer.valueOf(text);
        }
        try {
            return Pagewright.class.getField(text.substring("Pagewright.".length())).get(null);
        } catch (NoSuchFieldException e) {
            throw new IllegalStateException(text + " is no constant");
        }
    }

    private static Method method(String name) {
        for (Method method : Pagewright.class.getDeclaredMethods()) {
            if (Modifier.isPublic(method.getModifiers()) && method.getName().equals(name)) {
                return method;
            }
        }
        return null;
    }

    // ---- the table of the calls

    private static void table(String page) {
        Matcher row = ROW.matcher(page);
        int rows = 0;
        while (row.find()) {
            rows++;
            Method method = method(row.group(1));
            Check.due("whether there is a call " + row.group(1), method == null ? 0 : 1, 1);
            if (method != null) {
                StringBuilder letters = new StringBuilder();
                for (Class<?> e : method.getExceptionTypes()) {
                    letters.append(letters.length() == 0 ? "" : " ").append(LETTERS.get(e.getSimpleName()));
                }
                Check.due("what " + row.group(1) + " throws by README.md", row.group(3), letters.toString());
                Check.due("how many parameters " + row.group(1) + " has by README.md",
                        row.group(2).split(", ").length, method.getParameterCount());
            }
        }
        int calls = 0;
        for (Method method : Pagewright.class.getDeclaredMethods()) {
            calls += Modifier.isPublic(method.getModifiers()) ? 1 : 0;
        }
        Check.due("rows of the table", rows, calls);
    }

    // ---- how often an object is used, and the tests

    private static void names(String page) throws IOException {
        for (String due : new String[] {"at most " + Check.CALLS + " calls", ".ci/run", "javac", "JDK 17"}) {
            Check.due("whether README.md has \"" + due + "\"", page.contains(due) ? 1 : 0, 1);
        }
        try (DirectoryStream<Path> tests = Files.newDirectoryStream(TESTS, "*Test.java")) {
            for (Path test : tests) {
                String name = test.getFileName().toString().replace(".java", "");
                Check.due("whether README.md names " + name, page.contains("`" + name + "`") ? 1 : 0, 1);
            }
        }
    }
}
