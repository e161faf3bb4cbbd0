import java.io.IOException;
import java.lang.reflect.Method;
import java.lang.reflect.Modifier;
import java.nio.file.Files;
import java.nio.file.Path;
import java.util.List;
import java.util.regex.Matcher;
import java.util.regex.Pattern;
import java.util.stream.Stream;

/** README.md: its example answers what it says, and it names every call and every test. */
public final class ReadmeTest {
    /** A call of the example; the comment behind it begins with the answer, if it tells one. */
    private static final Pattern CALL = Pattern.compile("ranker\\.(\\w+)\\(([^)]*)\\);(?:\\s+// (-?\\d+): .*)?");

    public static void main(String[] args) throws IOException, ReflectiveOperationException {
        List<String> lines = Files.readAllLines(Path.of("README.md"));
        example(lines);
        everyCall(lines);
        everyTest(lines);
        Due.end();
    }

    private static void example(List<String> lines) throws ReflectiveOperationException {
        LearnedRanker ranker = new LearnedRanker();
        int start = lines.indexOf("```java");
        int end = start + lines.subList(start, lines.size()).indexOf("```");
        int told = 0;
        for (String line : lines.subList(start + 1, end)) {
            Matcher call = CALL.matcher(line);
            if (call.matches()) {
                long got = answer(ranker, call.group(1), call.group(2).split(", "));
                if (call.group(3) != null) {
                    told++;
                    Due.is("README.md: " + line, got, Long.parseLong(call.group(3)));
                }
            } else {
                boolean isOther = line.isEmpty() || line.equals("LearnedRanker ranker = new LearnedRanker();");
                Due.holds("README.md: this line is understood: " + line, isOther);
            }
        }
        Due.holds("README.md: the example tells answers", told > 0);
    }

    private static long answer(LearnedRanker ranker, String name, String[] texts) throws ReflectiveOperationException {
        Method method = methodOf(name);
        Object[] given = new Object[texts.length];
        for (int i = 0; i < texts.length; i++) {
            boolean isTruth = method.getParameterTypes()[i] == boolean.class;
            given[i] = isTruth ? (Object) Boolean.valueOf(texts[i]) : (Object) numberOf(texts[i]);
        }
        return ((Number) method.invoke(ranker, given)).longValue();
    }

    private static Method methodOf(String name) {
        for (Method method : LearnedRanker.class.getDeclaredMethods()) {
            if (Modifier.isPublic(method.getModifiers()) && method.getName().equals(name)) {
                return method;
            }
        }
        throw new IllegalArgumentException("README.md has a call that isn't there: " + name);
    }

    private static int numberOf(String text) {
        return text.startsWith("0b") ? Integer.parseInt(text.substring(2), 2) : Integer.parseInt(text);
    }

    private static void everyCall(List<String> lines) {
        for (Method method : LearnedRanker.class.getDeclaredMethods()) {
            if (Modifier.isPublic(method.getModifiers())) {
                String name = method.getName() + "(";
                Due.holds("README.md: a row for " + name + "..)", hasRow(lines, name));
                Due.holds("README.md: an example of " + name + "..)", hasLine(lines, "ranker." + name));
            }
        }
    }

    private static void everyTest(List<String> lines) throws IOException {
        try (Stream<Path> files = Files.list(Path.of("src/test/java"))) {
            for (Path file : files.toList()) {
                String name = file.getFileName().toString().replace(".java", "");
                if (name.endsWith("Test")) {
                    Due.holds("README.md: a row for " + name, hasRow(lines, name + "`"));
                }
            }
        }
    }

    private static boolean hasRow(List<String> lines, String name) {
        return hasLine(lines, "| `" + name);
    }

    private static boolean hasLine(List<String> lines, String beginning) {
        return lines.stream().anyMatch(line -> line.startsWith(beginning));
    }
}
