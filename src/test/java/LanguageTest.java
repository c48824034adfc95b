import java.io.IOException;
import java.lang.reflect.Field;
import java.lang.reflect.Method;
import java.lang.reflect.Modifier;
import java.nio.file.Files;
import java.nio.file.Path;
import java.util.regex.Matcher;
import java.util.regex.Pattern;

/**
 * The rules of ../shared/LANGUAGE.md that the text and the classes of Slickboom show; run it in the project's folder.
 */
public final class LanguageTest {
    private static final String E = "(IllegalState|IllegalArgument|IndexOutOfBounds|Arithmetic|UnsupportedOperation"
            + "|NoSuchElement|Runtime)Exception";
    /** By the number of the rule. */
    private static final String[][] FORBIDDEN = {
        {"1", "(?m)^\\s*package\\b"},
        {"2", "::"},
        {"2", "(?m)^(?!\\s*(case\\b.*|default) ->).*->"},
        {"4", "\\bimport\\s+(?!java\\.util\\.(Arrays|ArrayList|List|Iterator|NoSuchElementException);)"},
        {"4", "\\bjava\\.(?!util\\.)"},
        {"4", "\\bSystem\\.(?!arraycopy)"},
        {"4", "Exact\\("},
        {"5", "\\bstatic\\s*\\{"},
        {"6", "\\b(finally|synchronized|assert)\\b"},
        {"6", "\\btry\\s*\\("},
        {"6", "\\bthrow\\b(?! new " + E + "\\((\"[^\"]*\")?\\);)"},
        {"6", "\\b(getMessage|printStackTrace|hashCode)\\b"},
        {"6", "\\b(boolean equals|String toString)\\("},
        {"10", "\"\\s*\\+|\\+\\s*\""},
        {"13", "\\b(Thread|Random|Runtime\\.|ProcessBuilder|currentTimeMillis|nanoTime)\\b"},
        // what the machine throws is no answer: each reference, index and divisor is looked at ahead
        {"7", "\\bcatch\\b[^)]*\\b(Throwable|Exception|RuntimeException|ArithmeticException|NullPointerException"
            + "|ClassCastException|IndexOutOfBoundsException|ArrayIndexOutOfBoundsException"
            + "|NegativeArraySizeException|ArrayStoreException)\\b"},
    };

    public static void main(String[] args) throws IOException {
        String all = Files.readString(Path.of("src/main/java/Slickboom.java"));
        for (char c : all.toCharArray()) {
            if (c > 126) {
                Check.is("rule 4: a sign beyond 126", c, 0);
            }
        }
        String code = all.replaceAll("(?s)/\\*.*?\\*/", "").replaceAll("//[^\n]*", "");
        for (String[] rule : FORBIDDEN) {
            Check.is("rule " + rule[0] + ": " + rule[1], count(code, rule[1]), 0);
        }
        methods(code);
        types(Slickboom.class);
        Check.is("rule 11: classes are at most some 12", count(code, "\\b(class|interface|enum|record) [A-Z]") <= 13, true);
        Check.end();
    }

    private static int count(String text, String pattern) {
        Matcher matcher = Pattern.compile(pattern).matcher(text);
        int found = 0;
        while (matcher.find()) {
            found++;
        }
        return found;
    }

    /** A method ends with the line that closes it at its own indent. */
    private static void methods(String code) {
        Matcher matcher = Pattern.compile("(?sm)^( {4}| {8})[^ \n}][^;{}=]*\\(([^)]*)\\)[^;{}=]*\\{\n(.*?)^\\1\\}")
                .matcher(code);
        while (matcher.find()) {
            String name = matcher.group().trim().split("\n")[0];
            Check.is("rule 11: some 60 lines: " + name, matcher.group(3).split("\n").length <= 65, true);
            Check.is("rule 11: 7 parameters: " + name, matcher.group(2).split(",").length <= 7, true);
        }
    }

    private static void types(Class<?> type) {
        int fields = 0;
        for (Field field : type.getDeclaredFields()) {
            boolean isStatic = Modifier.isStatic(field.getModifiers());
            fields += isStatic ? 0 : 1;
            Check.is("rule 5: static fields are final: " + field, field.isSynthetic() || !isStatic
                    || Modifier.isFinal(field.getModifiers()), true);
        }
        Check.is("rule 11: some 20 fields: " + type, fields <= 22, true);
        for (Method method : type.getDeclaredMethods()) {
            Check.is("rule 1: no private method has a public one's name: " + method,
                    !Modifier.isPrivate(method.getModifiers()) || !isOfTheFace(method.getName()), true);
        }
        for (Class<?> inner : type.getDeclaredClasses()) {
            Check.is("rule 1: classes inside are not public: " + inner,
                    !Modifier.isPublic(inner.getModifiers()) && !Modifier.isProtected(inner.getModifiers()), true);
            types(inner);
        }
    }

    private static boolean isOfTheFace(String name) {
        for (Method method : Slickboom.class.getDeclaredMethods()) {
            if (Modifier.isPublic(method.getModifiers()) && method.getName().equals(name)) {
                return true;
            }
        }
        return false;
    }
}
