import java.io.IOException;
import java.lang.reflect.Method;
import java.lang.reflect.Modifier;
import java.nio.file.Files;
import java.nio.file.Path;
import java.util.ArrayList;
import java.util.List;
import java.util.Set;
import java.util.TreeSet;
import java.util.regex.Matcher;
import java.util.regex.Pattern;
import java.util.stream.Collectors;
import java.util.stream.Stream;

/** README.md: its examples answer what they say, and .ci/run knows every test that it tells of. */
public final class ReadmeTest {
    private static final Check CHECK = new Check();
    private static final Path TESTS = Path.of("src/test/java");
    private static final Pattern MAKING =
            Pattern.compile("TransformProduct x = new TransformProduct\\((-?\\d+)\\);.*");
    private static final Pattern CALL =
            Pattern.compile("x\\.(\\w+)\\(([-\\d, ]*)\\); +// (?:(true|false|NONE|-?\\d+)\\b)?.*");
    private static final Pattern TABLE_ROW = Pattern.compile("\\| (`.*?) \\|.*");
    private static final Pattern NAME = Pattern.compile("`(\\w+)");

    public static void main(String[] args) throws IOException, ReflectiveOperationException {
        List<String> lines = Files.readAllLines(Path.of("README.md"));
        Set<String> face = face();
        CHECK.text("calls that the examples show", examples(lines).toString(), face.toString());
        Set<String> told = tableNames(lines);
        Set<String> due = new TreeSet<>(face);
        due.addAll(testsThatRun());
        CHECK.text("calls and tests that the tables tell of", told.toString(), due.toString());
        CHECK.yes("README.md names .ci/run", lines.contains(".ci/run"));
        CHECK.yes(".ci/run is there", Files.isRegularFile(Path.of(".ci/run")));
        everyTestIsRun();
        CHECK.ended();
    }

    private static Set<String> face() {
        return Stream.of(TransformProduct.class.getDeclaredMethods())
                .filter(method -> Modifier.isPublic(method.getModifiers()))
                .map(Method::getName)
                .collect(Collectors.toCollection(TreeSet::new));
    }

    /** Runs the examples from the first to the last and answers which calls they showed. */
    private static Set<String> examples(List<String> lines) throws ReflectiveOperationException {
        Set<String> shown = new TreeSet<>();
        TransformProduct x = null;
        for (String line : codeLines(lines)) {
            Matcher making = MAKING.matcher(line);
            Matcher call = CALL.matcher(line);
            if (making.matches()) {
                x = new TransformProduct(Integer.parseInt(making.group(1)));
            } else if (call.matches() && x != null) {
                shown.add(call.group(1));
                CHECK.text("README.md: " + line, answer(x, call.group(1), call.group(2)), said(call.group(3)));
            } else {
                CHECK.text("a line of README.md", line, "a call of x and what it answers");
            }
        }
        return shown;
    }

    private static List<String> codeLines(List<String> lines) {
        List<String> code = new ArrayList<>();
        boolean inside = false;
        for (String line : lines) {
            if (line.startsWith("```")) {
                inside = line.equals("```java");
            } else if (inside) {
                code.add(line);
            }
        }
        return code;
    }

    private static String said(String answer) {
        return answer == null ? "nothing" : answer.equals("NONE") ? "-1" : answer;
    }

    private static String answer(TransformProduct x, String name, String written)
            throws ReflectiveOperationException {
        Object[] given = Stream.of(written.split(","))
                .map(String::trim).filter(text -> !text.isEmpty()).map(Integer::valueOf).toArray();
        Class<?>[] types = new Class<?>[given.length];
        java.util.Arrays.fill(types, int.class);
        Object answer = TransformProduct.class.getMethod(name, types).invoke(x, given);
        return answer == null ? "nothing" : answer.toString();
    }

    private static Set<String> tableNames(List<String> lines) {
        Set<String> names = new TreeSet<>();
        for (String line : lines) {
            Matcher row = TABLE_ROW.matcher(line);
            if (row.matches()) {
                Matcher name = NAME.matcher(row.group(1));
                while (name.find()) {
                    names.add(name.group(1));
                }
            }
        }
        return names;
    }

    private static Set<String> testsThatRun() throws IOException {
        return sources().stream().map(ReadmeTest::className)
                .filter(name -> name.endsWith("Test"))
                .collect(Collectors.toCollection(TreeSet::new));
    }

    /** .ci/run takes the files here whose name ends in Test, so no other may be a test. */
    private static void everyTestIsRun() throws IOException {
        for (Path source : sources()) {
            boolean isTest = Files.readString(source).contains("public static void main(");
            boolean isRun = source.getParent().equals(TESTS) && className(source).endsWith("Test");
            CHECK.same("is run, if a test: " + source, isRun ? 1 : 0, isTest ? 1 : 0);
        }
    }

    private static List<Path> sources() throws IOException {
        try (Stream<Path> paths = Files.walk(TESTS)) {
            return paths.filter(path -> path.toString().endsWith(".java")).sorted().toList();
        }
    }

    private static String className(Path source) {
        return source.getFileName().toString().replace(".java", "");
    }
}
