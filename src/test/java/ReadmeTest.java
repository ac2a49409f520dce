import java.io.IOException;
import java.lang.reflect.Method;
import java.nio.file.Files;
import java.nio.file.Path;
import java.util.ArrayList;
import java.util.List;
import java.util.Set;
import java.util.TreeSet;
import java.util.regex.Matcher;
import java.util.regex.Pattern;
import java.util.stream.Collectors;
import java.util.stream.Stream;

/** README.md: the example answers as it says; every call, constant and test is told, and no other. */
public final class ReadmeTest {
    private static final Pattern TEXT = Pattern.compile("for \\(char c : \"([^\"]*)\"");
    private static final Pattern ASKED = Pattern.compile("court\\.(\\w+)\\(([-0-9, ]*)\\); +// (-?\\d+)\\b.*");
    private static final Pattern CALL_TOLD = Pattern.compile("\\| `(\\w+\\([a-z, ]*\\))` \\|.*");
    private static final Pattern CONSTANT_TOLD = Pattern.compile("\\| `([A-Z]+)` \\| (-\\d+) \\|.*");
    private static final Pattern TEST_TOLD = Pattern.compile("\\| `(\\w+Test)` \\|.*");
    private static final Pattern FACE = Pattern.compile(" +public (?:int|long) (\\w+\\(.*\\));");

    public static void main(String[] args) throws IOException, ReflectiveOperationException {
        List<String> readme = Files.readAllLines(Path.of("README.md"));
        example(readme);
        Due.is("the calls told are those of the face: " + face() + ", not " + told(readme, CALL_TOLD),
            told(readme, CALL_TOLD).equals(face()) ? 1 : 0, 1);
        Due.is("the tests told are those that there are: " + tests() + ", not " + told(readme, TEST_TOLD),
            told(readme, TEST_TOLD).equals(tests()) ? 1 : 0, 1);
        constants(readme);
        Due.end();
    }

    private static List<Matcher> rows(List<String> page, Pattern form) {
        List<Matcher> rows = new ArrayList<>();
        for (String row : page) {
            Matcher m = form.matcher(row);
            if (m.matches()) {
                rows.add(m);
            }
        }
        return rows;
    }

    private static Set<String> told(List<String> page, Pattern form) {
        return rows(page, form).stream().map(m -> m.group(1)).collect(Collectors.toCollection(TreeSet::new));
    }

    private static void example(List<String> readme) throws ReflectiveOperationException {
        Matcher text = TEXT.matcher(String.join("\n", readme));
        Due.is("a text is told", text.find() ? 1 : 0, 1);
        FifthsOfGuilt x = new FifthsOfGuilt();
        Due.type(x, text.group(1));
        List<Matcher> asked = rows(readme, ASKED);
        for (Matcher row : asked) {
            Due.is(row.group(), ask(x, row.group(1), row.group(2)), Long.parseLong(row.group(3)));
        }
        // type() stands in the loop and has no answer told; every other row of the example has one.
        long rows = readme.stream().filter(row -> row.startsWith("court.")).count();
        Due.is("rows of the example that tell an answer", asked.size(), rows);
    }

    private static long ask(FifthsOfGuilt x, String name, String numbers) throws ReflectiveOperationException {
        Object[] all = Stream.of(numbers.split(",")).map(String::trim).filter(n -> !n.isEmpty())
            .map(Integer::valueOf).toArray();
        Class<?>[] types = new Class<?>[all.length];
        java.util.Arrays.fill(types, int.class);
        Method call = FifthsOfGuilt.class.getMethod(name, types);
        return ((Number) call.invoke(x, all)).longValue();
    }

    /** The document's face, its parameters by their names alone. */
    private static Set<String> face() throws IOException {
        return told(Files.readAllLines(Path.of("../shared/DOC.md")), FACE).stream()
            .map(call -> call.replace("int ", "")).collect(Collectors.toCollection(TreeSet::new));
    }

    private static Set<String> tests() throws IOException {
        try (Stream<Path> files = Files.list(Path.of("src/test/java"))) {
            return files.map(f -> f.getFileName().toString().replace(".java", "")).filter(n -> n.endsWith("Test"))
                .collect(Collectors.toCollection(TreeSet::new));
        }
    }

    private static void constants(List<String> readme) throws ReflectiveOperationException {
        List<Matcher> rows = rows(readme, CONSTANT_TOLD);
        Due.is("constants told", rows.size(), 5);
        for (Matcher row : rows) {
            long value = FifthsOfGuilt.class.getField(row.group(1)).getInt(null);
            Due.is(row.group(1), value, Long.parseLong(row.group(2)));
        }
    }
}
