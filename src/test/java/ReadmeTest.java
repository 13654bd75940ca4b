import java.io.IOException;
import java.lang.reflect.InvocationTargetException;
import java.lang.reflect.Method;
import java.lang.reflect.Modifier;
import java.nio.file.Files;
import java.nio.file.Path;
import java.util.ArrayList;
import java.util.HashMap;
import java.util.List;
import java.util.Map;
import java.util.regex.Matcher;
import java.util.regex.Pattern;

/** README.md tells no call wrongly; it is read from the directory that the test runs in. */
public final class ReadmeTest {
    private static final Check CHECK = new Check();
    private static final Pattern CALL = Pattern.compile("(?:int (\\w+) = )?x\\.(\\w+)\\((.*?)\\);(?: *// (-?\\w+).*)?");
    private static final Pattern ROW = Pattern.compile("\\| `(\\w+)\\((.*?)\\)` \\| (.*) \\| (.*) \\|");
    private static final Pattern EXCEPTION = Pattern.compile("\\w+Exception");

    private static List<String> lines;

    public static void main(String[] args) throws IOException {
        lines = Files.readAllLines(Path.of("README.md"));
        CHECK.sentence("README.md: the example", ReadmeTest::example);
        CHECK.sentence("README.md: the table of calls", ReadmeTest::tableOfCalls);
        CHECK.end();
    }

    private static void example() {
        int from = lines.indexOf("```java") + 1;
        CHECK.same("it begins with a new object", lines.get(from).startsWith("HoldMaps x = new HoldMaps();"), true);
        HoldMaps x = new HoldMaps();
        Map<String, Integer> variables = new HashMap<>();
        int end = from + lines.subList(from, lines.size()).indexOf("```");
        for (String line : lines.subList(from + 1, end)) {
            Matcher call = CALL.matcher(line);
            if (!call.matches()) {
                CHECK.same("a line", line, "a call");
                continue;
            }
            String got = answer(x, call.group(2), call.group(3).split(", "), variables);
            CHECK.same(line, got, String.valueOf(call.group(4)));
            if (call.group(1) != null) {
                variables.put(call.group(1), Integer.valueOf(got));
            }
        }
    }

    /** What the call answers, the name of what it throws, or "null" for a call that answers nothing. */
    private static String answer(HoldMaps x, String name, String[] words, Map<String, Integer> variables) {
        Method method = methods().get(name);
        Object[] arguments = new Object[words.length];
        for (int i = 0; i < words.length; i++) {
            arguments[i] = argument(words[i], variables);
        }
        try {
            return String.valueOf(method.invoke(x, arguments));
        } catch (InvocationTargetException e) {
            return e.getCause().getClass().getSimpleName();
        } catch (IllegalAccessException e) {
            throw new IllegalStateException(e);
        }
    }

    private static Object argument(String word, Map<String, Integer> variables) {
        if (word.equals("true") || word.equals("false")) {
            return Boolean.valueOf(word);
        }
        return variables.containsKey(word) ? variables.get(word) : Integer.valueOf(word);
    }

    private static Map<String, Method> methods() {
        Map<String, Method> methods = new HashMap<>();
        for (Method method : HoldMaps.class.getDeclaredMethods()) {
            if (Modifier.isPublic(method.getModifiers())) {
                methods.put(method.getName(), method);
            }
        }
        return methods;
    }

    private static void tableOfCalls() {
        Map<String, List<String>> thrown = new HashMap<>();
        Map<String, Integer> parameters = new HashMap<>();
        for (String line : lines) {
            Matcher row = ROW.matcher(line);
            if (row.matches()) {
                String refuses = row.group(4);
                thrown.put(row.group(1), refuses.equals("as `get`") ? thrown.get("get") : exceptions(refuses));
                parameters.put(row.group(1), row.group(2).split(", ").length);
            }
        }
        Map<String, Method> methods = methods();
        CHECK.same("the calls", parameters.keySet(), methods.keySet());
        for (String name : parameters.keySet()) {
            Method method = methods.get(name);
            CHECK.same("parameters of " + name, parameters.get(name), method.getParameterCount());
            CHECK.same("what " + name + " throws", thrown.get(name), names(method.getExceptionTypes()));
        }
    }

    private static List<String> exceptions(String text) {
        List<String> found = new ArrayList<>();
        Matcher exception = EXCEPTION.matcher(text);
        while (exception.find()) {
            found.add(exception.group());
        }
        return found;
    }

    private static List<String> names(Class<?>[] types) {
        List<String> names = new ArrayList<>();
        for (Class<?> type : types) {
            names.add(type.getSimpleName());
        }
        return names;
    }
}
