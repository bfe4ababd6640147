import java.lang.reflect.Method;
import java.lang.reflect.Modifier;
import java.nio.file.Files;
import java.nio.file.Path;
import java.util.HashMap;
import java.util.List;
import java.util.Map;
import java.util.regex.Matcher;
import java.util.regex.Pattern;

/** README.md says what the class answers: its example call by call, its table of calls, its list of tests. */
public final class ReadmeTest {
    private static final Path PAGE = Path.of("README.md");
    private static final Pattern CALL = Pattern.compile("^x\\.(\\w+)\\(([-\\d, ]*)\\); +// (-?\\d+): .*$");
    private static final Pattern FED = Pattern.compile("^for \\(char c : \"([^\"]*)\".*$");
    private static final Pattern ROW = Pattern.compile("^\\| `(\\w+)\\(([\\w, ]*)\\)` \\|.*$");

    public static void main(String[] args) throws Exception {
        List<String> lines = Files.readAllLines(PAGE);
        example(lines);
        table(lines);
        tests(lines);
        Due.end();
    }

    private static Map<String, Method> calls() {
        Map<String, Method> all = new HashMap<>();
        for (Method m : NobodyFirst.class.getDeclaredMethods()) {
            if (Modifier.isPublic(m.getModifiers())) {
                all.put(m.getName(), m);
            }
        }
        return all;
    }

    private static void example(List<String> lines) throws Exception {
        NobodyFirst x = new NobodyFirst();
        int asked = 0;
        for (String line : lines) {
            Matcher fed = FED.matcher(line);
            if (fed.matches()) {
                Due.feed(x, fed.group(1));
            }
            Matcher call = CALL.matcher(line);
            if (call.matches()) {
                asked++;
                Due.is(line, ask(x, calls().get(call.group(1)), call.group(2)), Long.parseLong(call.group(3)));
            }
            Due.is("a call without its answer: " + line, line.startsWith("x.") && !call.matches() ? 1 : 0, 0);
        }
        Due.is("calls of the example: " + asked, asked > 10 ? 1 : 0, 1);
    }

    private static long ask(NobodyFirst x, Method m, String numbers) throws Exception {
        String[] told = numbers.isEmpty() ? new String[0] : numbers.split(", ");
        Object[] row = new Object[told.length];
        for (int i = 0; i < told.length; i++) {
            if (m.getParameterTypes()[i] == long.class) {
                row[i] = Long.valueOf(told[i]);
            } else {
                row[i] = Integer.valueOf(told[i]);
            }
        }
        return ((Number) m.invoke(x, row)).longValue();
    }

    /** Every call stands in the table once, with as many words as it takes numbers. */
    private static void table(List<String> lines) {
        Map<String, Method> missing = calls();
        for (String line : lines) {
            Matcher row = ROW.matcher(line);
            if (row.matches()) {
                Method m = missing.remove(row.group(1));
                Due.is("a call of the class: " + line, m == null ? 0 : 1, 1);
                int words = row.group(2).isEmpty() ? 0 : row.group(2).split(", ").length;
                Due.is("words of " + line, words, m == null ? -1 : m.getParameterCount());
            }
        }
        Due.is("calls that the page leaves out: " + missing.keySet(), missing.size(), 0);
    }

    private static void tests(List<String> lines) throws Exception {
        try (java.util.stream.Stream<Path> files = Files.list(Path.of("src/test/java"))) {
            for (Path file : (Iterable<Path>) files::iterator) {
                String name = file.getFileName().toString().replace(".java", "");
                boolean told = lines.stream().anyMatch(line -> line.startsWith("| `" + name + "` |"));
                Due.is("the page tells of " + name, name.endsWith("Test") && !told ? 0 : 1, 1);
            }
        }
    }
}
