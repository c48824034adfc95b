import java.io.IOException;
import java.lang.reflect.InvocationTargetException;
import java.lang.reflect.Method;
import java.nio.file.Files;
import java.nio.file.Path;
import java.util.HashMap;
import java.util.HashSet;
import java.util.Map;
import java.util.Set;
import java.util.regex.Matcher;
import java.util.regex.Pattern;

/**
 * The example of README.md, call by call: each answers what its remark begins with. Every call of the
 * face stands somewhere in README. Run it in the project's folder.
 */
public final class ReadmeTest {
    private static final String FIRST_LINE = "Slickboom bay = new Slickboom();";
    private static final Pattern EXAMPLE = Pattern.compile("(?s)```java\n(.*?)```");
    private static final Pattern CALL = Pattern.compile(
            "(?:int (\\w+) = )?bay\\.(\\w+)\\(([^)]*)\\); +// (\\d+|true|false)(?:: .*)?");

    private final Slickboom bay = new Slickboom();
    private final Map<String, Integer> names = new HashMap<>();

    public static void main(String[] args) throws IOException, ReflectiveOperationException {
        String readme = Files.readString(Path.of("README.md"));
        Matcher example = EXAMPLE.matcher(readme);
        Check.is("README has an example", example.find(), true);
        new ReadmeTest().follow(example.group(1).split("\n"));
        for (String name : namesOfCalls()) {
            Check.is("README names " + name, readme.contains("`" + name + "`"), true);
        }
        Check.end();
    }

    private void follow(String[] lines) throws ReflectiveOperationException {
        Check.is("the example begins with a new object", lines[0].startsWith(FIRST_LINE), true);
        for (int i = 1; i < lines.length; i++) {
            Matcher call = CALL.matcher(lines[i]);
            Check.is("a call with its answer: " + lines[i], call.matches(), true);
            if (call.matches()) {
                String answer = answer(call.group(2), call.group(3).split(", "));
                Check.is("README: " + lines[i], answer, call.group(4));
                if (call.group(1) != null) {
                    names.put(call.group(1), Integer.valueOf(answer));
                }
            }
        }
    }

    private String answer(String name, String[] texts) throws ReflectiveOperationException {
        for (Method method : Slickboom.class.getMethods()) {
            if (method.getName().equals(name) && method.getParameterCount() == texts.length) {
                Object[] values = new Object[texts.length];
                for (int i = 0; i < texts.length; i++) {
                    values[i] = value(texts[i]);
                }
                try {
                    return String.valueOf(method.invoke(bay, values));
                } catch (InvocationTargetException e) {
                    return "throws " + e.getCause();
                }
            }
        }
        return "no such call";
    }

    private Object value(String text) throws ReflectiveOperationException {
        if (text.equals("true") || text.equals("false")) {
            return Boolean.valueOf(text);
        }
        if (text.startsWith("Slickboom.")) {
            return Slickboom.class.getField(text.substring("Slickboom.".length())).getInt(null);
        }
        return names.containsKey(text) ? names.get(text) : Integer.valueOf(text);
    }

    private static Set<String> namesOfCalls() {
        Set<String> calls = new HashSet<>();
        for (Method method : Slickboom.class.getMethods()) {
            if (method.getDeclaringClass() == Slickboom.class) {
                calls.add(method.getName());
            }
        }
        return calls;
    }
}
