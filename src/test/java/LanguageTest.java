import java.io.IOException;
import java.lang.reflect.Field;
import java.lang.reflect.Method;
import java.lang.reflect.Modifier;
import java.nio.file.Files;
import java.nio.file.Path;
import java.util.List;
import java.util.Set;
import java.util.regex.Matcher;
import java.util.regex.Pattern;

/** What of LANGUAGE.md can be seen from the text of the class, whose path is the argument, and from its members. */
public final class LanguageTest {
    private static final int MOST_LINES = 60;
    private static final int MOST_FIELDS = 20;
    private static final int MOST_PARAMETERS = 7;
    private static final String[] FORBIDDEN = {
        "\\bpackage\\b", "\\bfinally\\b", "\\bsynchronized\\b", "\\bassert\\b", "\\bstatic\\s*\\{", "::",
        "\\bimport (?!java\\.util\\.(ArrayList|List|Iterator|Arrays|NoSuchElementException);)",
        "\\bcatch \\((final )?(Array|NullPointer|ClassCast|NegativeArray|Exception|Throwable|Error)",
        "(?<!\\bdefault )(?<!\\bcase [\\w, ']{1,60} )->", "\\bSystem\\.(?!arraycopy)", "\\bThread\\b", "Exact\\b",
        "\\bprotected\\b", "\\bhashCode\\b", "\\bnative\\b", "\\bgetClass\\b", "\"\\s*\\+(?!=)", "\\+\\s*\"",
        "[^\\x00-\\x7f]",
    };
    private static final List<String> THROWN = List.of("IllegalStateException", "IllegalArgumentException",
            "IndexOutOfBoundsException", "ArithmeticException", "UnsupportedOperationException",
            "NoSuchElementException", "RuntimeException");
    private static final Set<Class<?>> CONSTANTS = Set.of(int.class, long.class, boolean.class, char.class, String.class,
            int[].class, long[].class, char[].class, byte[].class);

    private final Checks checks = new Checks();

    public static void main(String[] args) throws IOException {
        LanguageTest test = new LanguageTest();
        Path path = Path.of(args.length > 0 ? args[0] : "src/main/java/LatheCopies.java");
        test.forbidden(Files.readString(path).replaceAll("(?s)/\\*.*?\\*/|//[^\n]*", ""));
        test.methods(Files.readAllLines(path));
        test.members(LatheCopies.class);
        for (Class<?> inside : LatheCopies.class.getDeclaredClasses()) {
            int modifiers = inside.getModifiers();
            test.checks.due(inside + " is static", Modifier.isStatic(modifiers), true);
            test.checks.due(inside + " is seen outside", (modifiers & (Modifier.PUBLIC | Modifier.PROTECTED)) != 0, false);
            test.members(inside);
        }
        test.checks.end();
    }

    private void forbidden(String code) {
        for (String pattern : FORBIDDEN) {
            Matcher matcher = Pattern.compile(pattern).matcher(code);
            checks.due("found " + pattern, matcher.find(), false);
        }
        Matcher thrown = Pattern.compile("throw new (\\w+)\\(").matcher(code);
        while (thrown.find()) {
            checks.due("thrown " + thrown.group(1), THROWN.contains(thrown.group(1)), true);
        }
        Matcher classes = Pattern.compile("\\b(class|interface|enum|record) \\w+").matcher(code);
        checks.due("at most 12 classes", classes.results().count() <= 12, true);
    }

    /** A method's first line ends with "{" at 4 or 8 spaces, and its last line is "}" at as many. */
    private void methods(List<String> lines) {
        Pattern first = Pattern.compile("( {4}| {8})\\w[\\w\\[\\] ]*\\([^)]*\\)[^;]*\\{");
        for (int begin = 0; begin < lines.size(); begin++) {
            Matcher matcher = first.matcher(lines.get(begin));
            if (matcher.matches()) {
                int end = begin;
                while (end < lines.size() && !lines.get(end).equals(matcher.group(1) + "}")) {
                    end++;
                }
                checks.due("at most 60 lines: " + lines.get(begin), end - begin < MOST_LINES, true);
            }
        }
    }

    private void members(Class<?> owner) {
        int fields = 0;
        for (Field field : owner.getDeclaredFields()) {
            if (Modifier.isStatic(field.getModifiers())) {
                checks.due(field + " is final", Modifier.isFinal(field.getModifiers()), true);
                checks.due(field + " is a constant", CONSTANTS.contains(field.getType()), true);
            } else {
                fields++;
            }
        }
        checks.due("at most 20 fields in " + owner, fields <= MOST_FIELDS, true);
        for (Method method : owner.getDeclaredMethods()) {
            checks.due("at most 7 parameters: " + method, method.getParameterCount() <= MOST_PARAMETERS, true);
        }
    }
}
