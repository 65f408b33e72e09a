import java.io.IOException;
import java.nio.file.Files;
import java.nio.file.Path;
import java.util.List;
import java.util.regex.Matcher;
import java.util.regex.Pattern;

/** What of LANGUAGE.md can be seen from the text of the class; its argument is the path of the class. */
public final class LanguageTest {
    private static final int MOST_LINES = 60;
    private static final String[] FORBIDDEN = {
        "\\bpackage\\b", "\\bfinally\\b", "\\bsynchronized\\b", "\\bassert\\b", "\\bstatic\\s*\\{", "::",
        "\\bimport (?!java\\.util\\.(ArrayList|List|Iterator|Arrays|NoSuchElementException);)",
        "\\bcatch \\((final )?(Array|NullPointer|ClassCast|NegativeArray|Exception|Throwable|Error)",
        "(?<!\\bdefault )(?<!\\bcase [\\w, ']{1,60} )->", "\\bSystem\\.(?!arraycopy)", "\\bThread\\b", "Exact\\b",
        "\\bprotected\\b", "\\bhashCode\\b", "\\bnative\\b", "\\bgetClass\\b", "\"\\s*\\+(?!=)", "\\+\\s*\"",
        "[^\\x00-\\x7f]",
    };
    private static final List<String> THROWN = List.of("IllegalStateException", "IllegalArgumentException",
            "IndexOutOfBoundsException", "ArithmeticException", "UnsupportedOperationException",
            "NoSuchElementException", "RuntimeException");

    private final Checks checks = new Checks();

    public static void main(String[] args) throws IOException {
        LanguageTest test = new LanguageTest();
        Path path = Path.of(args.length > 0 ? args[0] : "src/main/java/LatheCopies.java");
        test.forbidden(Files.readString(path).replaceAll("(?s)/\\*.*?\\*/|//[^\n]*", ""));
        test.methods(Files.readAllLines(path));
        test.checks.end();
    }

    private void forbidden(String code) {
        for (String pattern : FORBIDDEN) {
            Matcher matcher = Pattern.compile(pattern).matcher(code);
            checks.due("found " + pattern, matcher.find(), false);
        }
        Matcher thrown = Pattern.compile("throw new (\\w+)\\(").matcher(code);
        while (thrown.find()) {
            checks.due("thrown " + thrown.group(1), THROWN.contains(thrown.group(1)), true);
        }
        Matcher classes = Pattern.compile("\\b(class|interface|enum|record) \\w+").matcher(code);
        checks.due("at most 12 classes", classes.results().count() <= 12, true);
    }

    /** A method's first line ends with "{" at 4 or 8 spaces, and its last line is "}" at as many. */
    private void methods(List<String> lines) {
        Pattern first = Pattern.compile("( {4}| {8})\\w[\\w\\[\\] ]*\\([^)]*\\)[^;]*\\{");
        for (int begin = 0; begin < lines.size(); begin++) {
            Matcher matcher = first.matcher(lines.get(begin));
            if (matcher.matches()) {
                int end = begin;
                while (end < lines.size() && !lines.get(end).equals(matcher.group(1) + "}")) {
                    end++;
                }
                checks.due("at most 60 lines: " + lines.get(begin), end - begin < MOST_LINES, true);
                checks.due("at most 7 parameters: " + lines.get(begin), lines.get(begin).split(",").length <= 7, true);
            }
        }
    }
}
