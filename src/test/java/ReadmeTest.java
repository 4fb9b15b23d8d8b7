import java.io.IOException;
import java.lang.reflect.Method;
import java.lang.reflect.Modifier;
import java.nio.file.Files;
import java.nio.file.Path;
import java.util.regex.Matcher;
import java.util.regex.Pattern;

/** README.md says how to use the class: its example answers what stands behind each call, and it names every call. */
public final class ReadmeTest {
    private static final Due DUE = new Due("ReadmeTest");
    private static final Pattern FED = Pattern.compile("^feed\\(x, \"(.*)\"\\);\\s+// (\\d+)");
    private static final Pattern CALLED = Pattern.compile("^x\\.(\\w+)\\((.*)\\);\\s+// (-?\\d+|true|false)\\b");

    public static void main(String[] args) throws IOException, ReflectiveOperationException {
        String readme = Files.readString(Path.of("README.md"));
        example(readme.split("\n"));
        for (Method method : OneSided.class.getDeclaredMethods()) {
            if (Modifier.isPublic(method.getModifiers())) {
                DUE.same("README.md names " + method.getName(), readme.contains("`" + method.getName() + "("), true);
            }
        }
        DUE.same("README.md says how to run the tests", readme.contains("\n    .ci/run\n"), true);
        tests(readme);
        DUE.end();
    }

    private static void example(String[] lines) throws ReflectiveOperationException {
        OneSided x = null;
        int answers = 0;
        for (String line : lines) {
            Matcher fed = FED.matcher(line);
            Matcher called = CALLED.matcher(line);
            if (line.equals("OneSided x = new OneSided();")) {
                x = new OneSided();
            } else if (x != null && fed.find()) {
                answers++;
                DUE.same(line, Due.feed(x, fed.group(1)), Integer.parseInt(fed.group(2)));
            } else if (x != null && called.find()) {
                answers++;
                String answer = String.valueOf(answer(x, called.group(1), called.group(2)));
                DUE.same(line + " answered " + answer, answer.equals(called.group(3)), true);
            } else {
                DUE.same("a call without an answer: " + line, line.startsWith("x.") || line.startsWith("feed("), false);
            }
        }
        DUE.same("the example was found", answers >= 20, true);
    }

    private static Object answer(OneSided x, String name, String told) throws ReflectiveOperationException {
        String[] words = told.isEmpty() ? new String[0] : told.split(", ");
        for (Method method : OneSided.class.getDeclaredMethods()) {
            if (method.getName().equals(name) && method.getParameterCount() == words.length) {
                Object[] values = new Object[words.length];
                for (int i = 0; i < words.length; i++) {
                    boolean isNumber = method.getParameterTypes()[i] == int.class;
                    values[i] = isNumber ? (Object) Integer.valueOf(words[i]) : (Object) Boolean.valueOf(words[i]);
                }
                return method.invoke(x, values);
            }
        }
        return "no such call";
    }

    private static void tests(String readme) throws IOException {
        try (var files = Files.list(Path.of("src/test/java"))) {
            for (Path file : files.filter(f -> f.toString().endsWith("Test.java")).toList()) {
                String name = file.getFileName().toString().replace(".java", "");
                DUE.same("README.md names " + name, readme.contains("| `" + name + "` |"), true);
            }
        }
    }
}
