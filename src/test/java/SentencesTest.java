import java.io.IOException;
import java.nio.file.Files;
import java.nio.file.Path;
import java.util.Arrays;
import java.util.Map;
import java.util.TreeMap;
import java.util.regex.Matcher;
import java.util.regex.Pattern;
import java.util.stream.Collectors;
import java.util.stream.Stream;

/**
 * Each sentence of the document has a test: the remark ahead of a test quotes the words that it tests, as in
 * Promise 5: "Throws IllegalStateException if it is a SHORE". Words that no test quotes are told here, and
 * so are quoted words that the document does not have. Run it in the project's folder; with the argument
 * "list" it prints which tests quote which sentence.
 */
public final class SentencesTest {
    private static final Pattern REMARK = Pattern.compile("(?s)/\\*\\*((?:(?!\\*/).)*)\\*/\\s*private static void (\\w+)\\(");
    private static final Pattern QUOTES = Pattern.compile("(?:Promise (\\d+)|Terms): ((?:\"[^\"]+\"(?:, )?)+)");
    private static final Pattern QUOTE = Pattern.compile("\"([^\"]+)\"");
    /** Headings that are no headings by their form, and what tells how the interface is set. */
    private static final String[] NO_SENTENCES = {
        "Ships, oil, HOURS", "Shores, waste, claims", "Ahead of the calls [^\n]*", "The constants:",
    };
    private static final String TERMS = "Terms";

    private final Map<String, String> sections = new TreeMap<>();
    private final Map<String, boolean[]> quoted = new TreeMap<>();
    private final Map<String, String> tests = new TreeMap<>();

    public static void main(String[] args) throws IOException {
        SentencesTest all = new SentencesTest();
        all.readDocument(Files.readString(Path.of("../shared/DOC.md")));
        try (Stream<Path> files = Files.list(Path.of("src/test/java"))) {
            for (Path file : files.sorted().collect(Collectors.toList())) {
                if (file.toString().endsWith("Test.java")) {
                    all.readTests(file.getFileName().toString().replace(".java", ""), Files.readString(file));
                }
            }
        }
        if (Arrays.asList(args).contains("list")) {
            all.tests.forEach((sentence, names) -> System.out.println(sentence + "\n    " + names));
        }
        all.tellUnquoted();
        Check.end();
    }

    private void readDocument(String document) {
        for (String section : document.split("(?m)^## ")) {
            String title = section.substring(0, section.indexOf('\n'));
            String text = section.substring(title.length() + 1);
            if (title.equals(TERMS)) {
                sections.put(TERMS, plain(text));
            } else if (title.startsWith("Promise ")) {
                String number = title.replaceAll("Promise (\\d+):.*", "$1");
                // ahead of the promise stands its call, between two backquotes
                sections.put(number, plain(text.replaceFirst("`[^`]*`: ", "")));
            }
        }
        Check.is("sections of the document", sections.size(), 33);
        sections.forEach((name, text) -> quoted.put(name, new boolean[text.length()]));
    }

    private static String plain(String text) {
        String plain = text.replaceAll("(?m)^###.*$", "").replaceAll("(?m)^(- |\\d+\\. )", "").replace("`", "");
        for (String none : NO_SENTENCES) {
            plain = plain.replaceAll("(?m)^" + none, "");
        }
        return plain.trim().replaceAll("\\s+", " ");
    }

    private void readTests(String file, String text) {
        Matcher remark = REMARK.matcher(text);
        while (remark.find()) {
            String words = remark.group(1).replaceAll("\\s+\\*?\\s*", " ");
            String name = remark.group(2);
            Matcher quotes = QUOTES.matcher(words);
            while (quotes.find()) {
                Check.is(file + "." + name + " is run", text.contains("        " + name + "();\n"), true);
                Matcher quote = QUOTE.matcher(quotes.group(2));
                while (quote.find()) {
                    note(quotes.group(1), quote.group(1), file + "." + name);
                }
            }
        }
    }

    /** Words that a promise does not have are those of a term that it stands on. */
    private void note(String promise, String words, String test) {
        boolean isOwn = promise != null && sections.containsKey(promise) && sections.get(promise).contains(words);
        String section = isOwn ? promise : TERMS;
        String text = sections.get(section);
        int at = text.indexOf(words);
        Check.is(test + " quotes what the document says: " + words, at >= 0, true);
        while (at >= 0) {
            Arrays.fill(quoted.get(section), at, at + words.length(), true);
            at = text.indexOf(words, at + 1);
        }
        String title = isOwn ? "Promise " + (promise.length() < 2 ? " " : "") + promise : TERMS;
        tests.merge(title + ": " + words, test, (all, one) -> all + ", " + one);
    }

    private void tellUnquoted() {
        for (Map.Entry<String, String> section : sections.entrySet()) {
            StringBuilder open = new StringBuilder();
            for (int i = 0; i < section.getValue().length(); i++) {
                open.append(quoted.get(section.getKey())[i] ? '|' : section.getValue().charAt(i));
            }
            for (String words : open.toString().split("\\|+")) {
                boolean isNone = !words.matches("(?s).*[A-Za-z0-9].*");
                Check.is("no test of " + section.getKey() + ": " + words.trim(), isNone, true);
            }
        }
    }
}
