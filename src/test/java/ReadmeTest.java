import java.lang.reflect.Method;
import java.nio.file.Files;
import java.nio.file.Path;
import java.util.List;
import java.util.regex.Matcher;
import java.util.regex.Pattern;

/** README.md is true: each call in its examples answers what the page says. */
public final class ReadmeTest {
    private static final Pattern CALL = Pattern.compile("x\\.(\\w+)\\(([-\\d, ]*)\\);(?:\\s+// (-?\\d+|true|false)(:.*)?)?");
    private static final Pattern FEED = Pattern.compile("feed\\(x, \"(.*)\"\\);");

    private static VectorPipes x;
    private static int calls;

    public static void main(String[] args) throws Exception {
        List<String> lines = Files.readAllLines(Path.of("README.md"));
        boolean code = false;
        boolean helper = false;
        for (int k = 0; k < lines.size(); k++) {
            String line = lines.get(k);
            if (line.startsWith("```")) {
                code = line.equals("```java");
                helper = false;
            } else if (code) {
                // the helper is that of Check; its body and its end are no example
                helper |= line.startsWith("static");
                if (!helper) {
                    example("README.md, line " + (k + 1) + ": " + line, line);
                }
            }
        }
        Check.due("the examples are many", calls > 40, true);
        allTests(lines);
        Check.end();
    }

    private static void example(String name, String line) throws Exception {
        Matcher fed = FEED.matcher(line);
        Matcher call = CALL.matcher(line);
        if (line.equals("VectorPipes x = new VectorPipes();")) {
            x = new VectorPipes();
        } else if (fed.matches()) {
            Check.feed(x, fed.group(1));
        } else if (call.matches()) {
            Check.due(name, made(call.group(1), call.group(2)).equals(call.group(3)), true);
            calls++;
        } else {
            Check.due(name + " is an example", false, true);
        }
    }

    private static String made(String called, String given) throws Exception {
        String[] texts = given.isEmpty() ? new String[0] : given.split(", ");
        for (Method method : VectorPipes.class.getMethods()) {
            if (method.getName().equals(called) && method.getParameterCount() == texts.length) {
                Object[] values = new Object[texts.length];
                for (int k = 0; k < texts.length; k++) {
                    boolean wide = method.getParameterTypes()[k] == long.class;
                    values[k] = wide ? (Object) Long.valueOf(texts[k]) : (Object) Integer.valueOf(texts[k]);
                }
                return String.valueOf(method.invoke(x, values));
            }
        }
        return "no such call";
    }

    /** Each test of the project is told of. */
    private static void allTests(List<String> lines) throws Exception {
        String page = String.join("\n", lines);
        try (var files = Files.list(Path.of("src/test/java"))) {
            for (Path file : files.toList()) {
                String name = file.getFileName().toString().replace(".java", "");
                Check.due("README.md tells of " + name, !name.endsWith("Test") || page.contains("`" + name + "`"), true);
            }
        }
    }
}
