import java.io.ByteArrayOutputStream;
import java.io.IOException;
import java.io.PrintStream;
import java.lang.reflect.Method;
import java.lang.reflect.Modifier;
import java.nio.file.DirectoryStream;
import java.nio.file.Files;
import java.nio.file.Path;
import java.util.List;
import java.util.Set;
import java.util.TreeSet;
import java.util.regex.Matcher;
import java.util.regex.Pattern;

/** What README.md says: its example and what it prints, its tables of the calls and of the tests. */
public final class ReadmeTest {
    private static final Path README = Path.of("README.md");
    private static final Path TESTS = Path.of("src/test/java");
    private static final Pattern QUOTED = Pattern.compile("`([^`]*)`");
    private static final Pattern NUMBERS = Pattern.compile("(\\d+)(?: to (\\d+))?");
    private static final Pattern PRINTED = Pattern.compile("System\\.out\\.println.*// (\\w+).*");

    private final Checks checks = new Checks();
    private final List<String> lines;

    private ReadmeTest(List<String> lines) {
        this.lines = lines;
    }

    public static void main(String[] args) throws IOException {
        ReadmeTest test = new ReadmeTest(Files.readAllLines(README));
        test.exampleIsTheOneBelow();
        test.examplePrints();
        test.calls();
        test.undoable();
        test.changeNothing();
        test.tests();
        test.checks.end();
    }

    /** The example of README.md, line by line. */
    private static void example() {
        LatheCopies lathe = new LatheCopies();
        lathe.carve(0, 8, 20);                        // the master under the follower gets a groove
        int piece = lathe.addBlank(1, 45);            // oak
        lathe.mount(piece);
        while (!lathe.isFinished()) {
            lathe.passUpTo(30);                       // here until the piece is finished, or the lathe jams
            lathe.sweep();
            lathe.sharpen();
        }
        System.out.println(lathe.faultsOf(piece));    // 1: the tip of radius 1 cannot enter the groove
        System.out.println(lathe.lostGrooves());      // 1

        for (char sign : "30x8,20,30x7".toCharArray()) {
            lathe.append(sign);                       // the same master as a text
        }
        System.out.println(lathe.firstError());       // 12: the length of the text, so there is no error
        lathe.loadMaster(1);
        lathe.chooseMaster(1);
        lathe.keep(0);                                // a snapshot
        lathe.fitFollower(0);                         // a new one, whose tip enters it
        System.out.println(lathe.passesBySteps());    // 3
        lathe.passUpTo(3);
        System.out.println(lathe.isGood(piece));      // true
        lathe.undo();                                 // the passes are not done
        System.out.println(lathe.diameterAt(0, 8));   // 29
        lathe.goBack(0);                              // and the old follower is back
        System.out.println(lathe.radius());           // 1
    }

    private List<String> block() {
        int begin = lines.indexOf("```java") + 1;
        return lines.subList(begin, begin + lines.subList(begin, lines.size()).indexOf("```"));
    }

    private static String joined(List<String> told) {
        StringBuilder joined = new StringBuilder();
        told.forEach(line -> joined.append(line.strip()).append('\n'));
        return joined.toString();
    }

    private void exampleIsTheOneBelow() throws IOException {
        List<String> own = Files.readAllLines(TESTS.resolve("ReadmeTest.java"));
        checks.due("the example has lines", block().isEmpty(), false);
        checks.due("the example is the one of ReadmeTest", joined(own).contains(joined(block())), true);
    }

    private void examplePrints() {
        StringBuilder due = new StringBuilder();
        for (String line : block()) {
            Matcher matcher = PRINTED.matcher(line);
            if (matcher.matches()) {
                due.append(matcher.group(1)).append('\n');
            }
        }
        ByteArrayOutputStream printed = new ByteArrayOutputStream();
        PrintStream usual = System.out;
        System.setOut(new PrintStream(printed, true));
        example();
        System.setOut(usual);
        checks.due("what the example prints", printed.toString().replace("\r", ""), due.toString());
    }

    /** The rows of the table that begins so, without its head. */
    private List<String> rows(String head) {
        int begin = lines.indexOf(head);
        checks.due("there is a table " + head, begin >= 0, true);
        List<String> behind = lines.subList(begin + 2, lines.size());
        int length = 0;
        while (length < behind.size() && behind.get(length).startsWith("| ")) {
            length++;
        }
        return behind.subList(0, length);
    }

    private List<String> rowsOfCalls() {
        return rows("| calls | what they are for |");
    }

    private static Set<String> quoted(List<String> rows) {
        Set<String> names = new TreeSet<>();
        for (String row : rows) {
            Matcher matcher = QUOTED.matcher(row.split("\\|")[1]);
            while (matcher.find()) {
                names.add(matcher.group(1));
            }
        }
        return names;
    }

    private static List<Method> face() {
        return List.of(LatheCopies.class.getDeclaredMethods()).stream()
                .filter(method -> Modifier.isPublic(method.getModifiers())).toList();
    }

    private void calls() {
        Set<String> face = new TreeSet<>();
        face().forEach(method -> face.add(method.getName()));
        checks.due("the calls that README.md names", quoted(rowsOfCalls()), face);
    }

    /** "All calls of the first four rows, and `goBack`, are undoable": each saves a state, and no other does. */
    private void undoable() {
        checks.due("README.md tells which are undoable",
                joined(lines).contains("All calls of the first four rows, and `goBack`, are undoable;"), true);
        Set<String> due = quoted(rowsOfCalls().subList(0, 4));
        due.add("goBack");
        Set<String> got = new TreeSet<>();
        for (Method method : face()) {
            LatheCopies lathe = readyFor(method);
            int before = lathe.savedStates();
            call(lathe, method);
            if (lathe.savedStates() == before + 1) {
                got.add(method.getName());
            }
        }
        checks.due("undoable calls", got, due);
    }

    private void changeNothing() {
        checks.due("README.md tells which change nothing",
                joined(lines).contains("a call of the last seven rows changes nothing."), true);
        List<String> rows = rowsOfCalls();
        Set<String> names = quoted(rows.subList(rows.size() - 7, rows.size()));
        for (Method method : face()) {
            LatheCopies lathe = readyFor(method);
            long before = lathe.digest();
            call(lathe, method);
            if (names.contains(method.getName())) {
                checks.due("the state behind " + method.getName(), lathe.digest(), before);
            }
        }
    }

    /** Two pieces, a snapshot, and a text; the piece 0 is mounted, but for the call that mounts one. */
    private static LatheCopies readyFor(Method method) {
        LatheCopies lathe = new LatheCopies();
        lathe.addBlank(0, 40);
        lathe.addBlank(1, 50);
        lathe.keep(1);
        Checks.type(lathe, "20x16");
        if (!method.getName().equals("mount")) {
            lathe.mount(0);
        }
        return lathe;
    }

    /** With 1 for each argument, which each call takes, but for the diameters and the character. */
    private void call(LatheCopies lathe, Method method) {
        Object[] arguments = new Object[method.getParameterCount()];
        java.util.Arrays.fill(arguments, 1);
        switch (method.getName()) {
            case "carve" -> arguments[2] = 44;
            case "addBlank" -> arguments[1] = 44;
            case "append" -> arguments[0] = (int) 'x';
            default -> { }
        }
        try {
            method.invoke(lathe, arguments);
        } catch (ReflectiveOperationException e) {
            checks.due(method.getName() + " throws", e.getCause(), null);
        }
    }

    private void tests() throws IOException {
        List<String> rows = rows("| test | promises |");
        Set<String> files = new TreeSet<>();
        try (DirectoryStream<Path> found = Files.newDirectoryStream(TESTS, "*Test.java")) {
            found.forEach(file -> files.add(file.getFileName().toString().replace(".java", "")));
        }
        checks.due("the tests that README.md names", quoted(rows), files);
        Set<Integer> promises = new TreeSet<>();
        Set<Integer> due = new TreeSet<>();
        for (int promise = 1; promise <= 71; promise++) {
            due.add(promise);
        }
        for (String row : rows) {
            addPromises(promises, row.split("\\|")[2].strip());
        }
        checks.due("the promises that README.md names", promises, due);
    }

    private static void addPromises(Set<Integer> promises, String told) {
        if (!told.matches("\\d.*")) {
            return;
        }
        Matcher matcher = NUMBERS.matcher(told);
        while (matcher.find()) {
            int last = Integer.parseInt(matcher.group(matcher.group(2) == null ? 1 : 2));
            for (int promise = Integer.parseInt(matcher.group(1)); promise <= last; promise++) {
                promises.add(promise);
            }
        }
    }
}
