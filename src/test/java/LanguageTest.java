import java.io.IOException;
import java.nio.file.Files;
import java.nio.file.Path;
import java.util.regex.Matcher;
import java.util.regex.Pattern;

/** The rules of ../shared/LANGUAGE.md that the text of Slickboom shows; run it in the project's folder. */
public final class LanguageTest {
    private static final String[] FORBIDDEN = {
        "->", "::", "\\btry\\b", "\\bcatch\\b", "\\bfinally\\b", "\\bsynchronized\\b", "\\bassert\\b",
        "\\bdouble\\b", "\\bfloat\\b", "\\bObject\\b", "\\bSystem\\.(?!arraycopy)", "\\bnew Random\\b",
        "static\\s*\\{", "Exact\\(", "\"\\s*\\+", "\\+\\s*\"", "\\bpackage\\b", "\\bInteger\\.[A-Z]",
        "\\bextends\\b", "\\bhashCode\\b", "\\bequals\\b", "\\btoString\\b", "\\bwhile\\b",
    };

    public static void main(String[] args) throws IOException {
        String all = Files.readString(Path.of("src/main/java/Slickboom.java"));
        for (char c : all.toCharArray()) {
            if (c > 126) {
                Check.is("a sign beyond 126", c, 0);
            }
        }
        String code = all.replaceAll("(?s)/\\*.*?\\*/", "").replaceAll("//[^\n]*", "");
        for (String pattern : FORBIDDEN) {
            Check.is("forbidden: " + pattern, count(code, pattern), 0);
        }
        Check.is("imports", count(code, "\\bimport\\b"), count(code, "import java\\.util\\.Arrays;"));
        Check.is("classes are at most 12", count(code, "\\b(class|interface|enum|record) [A-Z]") <= 12, true);
        Check.is("throws are throw new", count(code, "\\bthrow\\b"),
                count(code, "\\bthrow new (IndexOutOfBounds|IllegalArgument|IllegalState)Exception\\(\"[^\"]+\"\\);"));
        methods(code);
        Check.end();
    }

    private static int count(String text, String pattern) {
        Matcher matcher = Pattern.compile(pattern).matcher(text);
        int found = 0;
        while (matcher.find()) {
            found++;
        }
        return found;
    }

    /** A method ends with the line that closes it at its own indent. */
    private static void methods(String code) {
        Matcher matcher = Pattern.compile("(?sm)^( {4}| {8})[^ \n}][^;{}=]*\\(([^)]*)\\)[^;{}=]*\\{\n(.*?)^\\1\\}")
                .matcher(code);
        int found = 0;
        while (matcher.find()) {
            found++;
            String name = matcher.group().trim().split("\n")[0];
            Check.is("at most 60 lines: " + name, matcher.group(3).split("\n").length <= 60, true);
            Check.is("at most 7 parameters: " + name, matcher.group(2).split(",").length <= 7, true);
        }
        Check.is("methods are found", found > 80, true);
    }
}
