import java.io.IOException;
import java.lang.reflect.InvocationTargetException;
import java.lang.reflect.Method;
import java.lang.reflect.Modifier;
import java.nio.file.Files;
import java.nio.file.Path;
import java.util.ArrayList;
import java.util.List;
import java.util.regex.Matcher;
import java.util.regex.Pattern;
import java.util.stream.Collectors;
import java.util.stream.Stream;

/** What README.md says is so: its examples answer as their comments tell, and what it names is there. */
public final class ReadmeTest {
    private static final Path README = Path.of("README.md");
    private static final String NEW_OBJECT = "LackFerry x = new LackFerry();";
    private static final Pattern CALL = Pattern.compile(
        "(?:tell\\(x, \"([^\"]*)\"\\)|x)\\.(\\w+)\\(([^()]*)\\);\\s+// (throws \\w+|true|false|-?\\d+)\\b.*");
    private static final Pattern PATH = Pattern.compile("`((?:\\.ci/|src/)[\\w./]*|\\w+\\.md)`");

    private final Checks checks = new Checks();
    private final String readme;
    private LackFerry x;

    private ReadmeTest(String readme) {
        this.readme = readme;
    }

    /** The text of each block that is marked so. */
    private List<String> blocks(String mark) {
        List<String> found = new ArrayList<>();
        Matcher matcher = Pattern.compile("(?ms)^```" + mark + "\n(.*?)^```$").matcher(readme);
        while (matcher.find()) {
            found.add(matcher.group(1));
        }
        return found;
    }

    private static Method methodNamed(String name) {
        for (Method method : LackFerry.class.getDeclaredMethods()) {
            if (Modifier.isPublic(method.getModifiers()) && method.getName().equals(name)) {
                return method;
            }
        }
        return null;
    }

    private String answer(String name, String numbers) {
        Method method = methodNamed(name);
        if (method == null) {
            return "no such method";
        }
        Object[] args = numbers.isBlank() ? new Object[0]
            : Stream.of(numbers.split(",")).map(n -> Integer.decode(n.strip())).toArray();
        try {
            return String.valueOf(method.invoke(x, args));
        } catch (InvocationTargetException e) {
            return "throws " + e.getCause().getClass().getSimpleName();
        } catch (IllegalAccessException | IllegalArgumentException e) {
            return e.toString();
        }
    }

    private void checkExamples() {
        checks.about("an example of README.md");
        int calls = 0;
        for (String block : blocks("java")) {
            if (!block.startsWith(NEW_OBJECT)) {
                continue;
            }
            for (String line : block.split("\n")) {
                checkLine(line);
                calls++;
            }
        }
        checks.due("there are examples", calls > 80, true);
    }

    private void checkLine(String line) {
        if (line.equals(NEW_OBJECT)) {
            x = new LackFerry();
            return;
        }
        Matcher call = CALL.matcher(line);
        checks.due("a call with its answer: " + line, call.matches(), true);
        if (!call.matches()) {
            return;
        }
        if (call.group(1) != null) {
            Checks.tell(x, call.group(1));
        }
        String got = answer(call.group(2), call.group(3));
        checks.due(line + " (answered " + got + ")", got.equals(call.group(4)), true);
    }

    /** The method that the examples use is the one that they are run with. */
    private void checkTell() throws IOException {
        checks.about("README.md's tell");
        List<String> others = blocks("java").stream().filter(b -> !b.startsWith(NEW_OBJECT)).collect(Collectors.toList());
        checks.due("one block is no example", others.size(), 1);
        String source = Files.readString(Path.of("src/test/java/Checks.java"));
        for (String block : others) {
            checks.due("it stands in Checks.java", source.contains(block.indent(4)), true);
        }
    }

    /** Each call of the face has a row, with as many arguments, and each row such a call. */
    private void checkTable() {
        checks.about("README.md's table");
        List<String> rows = new ArrayList<>();
        int promise = 2;
        Matcher row = Pattern.compile("(?m)^\\| `(\\w+)\\(([^)]*)\\)` \\| .* \\| (\\d+) \\|$").matcher(readme);
        while (row.find()) {
            String name = row.group(1);
            Method method = methodNamed(name);
            rows.add(name);
            checks.due(name + " is a call", method != null, true);
            int args = row.group(2).isBlank() ? 0 : row.group(2).split(",").length;
            checks.due(name + "'s arguments", args, method == null ? -1 : method.getParameterCount());
            checks.due(name + "'s promise", Integer.parseInt(row.group(3)), promise);
            promise++;
        }
        for (Method method : LackFerry.class.getDeclaredMethods()) {
            if (Modifier.isPublic(method.getModifiers())) {
                checks.due(method.getName() + " has a row", rows.contains(method.getName()), true);
            }
        }
        checks.due("the last promise has a row", promise, 43);
    }

    private void checkNames() throws IOException {
        checks.about("what README.md names");
        Matcher path = PATH.matcher(readme);
        int paths = 0;
        while (path.find()) {
            checks.due(path.group(1) + " is there", Files.exists(Path.of(path.group(1))), true);
            paths++;
        }
        checks.due("it names files", paths >= 5, true);
        List<String> tests = new ArrayList<>();
        try (Stream<Path> files = Files.list(Path.of("src/test/java"))) {
            files.map(f -> f.getFileName().toString()).filter(f -> f.endsWith("Test.java")).forEach(tests::add);
        }
        for (String test : tests) {
            String name = test.substring(0, test.length() - ".java".length());
            checks.due("it names " + name, readme.contains("`" + name + "`"), true);
        }
        Matcher named = Pattern.compile("\\b\\w+Test\\b").matcher(readme.replace("*Test.java", ""));
        while (named.find()) {
            checks.due("there is " + named.group(), tests.contains(named.group() + ".java"), true);
        }
        checks.due("it tells how to run them", blocks("sh").contains("bash .ci/run\n"), true);
        checks.due(".ci/run can be run", Files.isExecutable(Path.of(".ci/run")), true);
    }

    public static void main(String[] args) throws IOException {
        ReadmeTest test = new ReadmeTest(Files.readString(README));
        test.checkExamples();
        test.checkTell();
        test.checkTable();
        test.checkNames();
        test.checks.end();
    }
}
