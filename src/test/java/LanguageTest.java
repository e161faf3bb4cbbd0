import java.io.IOException;
import java.lang.management.ManagementFactory;
import java.lang.reflect.Executable;
import java.lang.reflect.Field;
import java.lang.reflect.Modifier;
import java.nio.file.Files;
import java.nio.file.Path;
import java.util.ArrayList;
import java.util.List;
import java.util.Set;

/** The rules of ../shared/LANGUAGE.md that can be seen from outside, and the room that the calls have. */
public final class LanguageTest {
    private static final Set<String> IMPORTS = Set.of(
            "java.util.Arrays", "java.util.ArrayList", "java.util.List", "java.util.Iterator",
            "java.util.NoSuchElementException");
    private static final String[] FORBIDDEN = {
        "package", "synchronized", "assert", "finally", "protected", "native", "volatile", "Random", "Thread",
        "nanoTime", "currentTimeMillis", "getenv", "getProperty", "getMessage", "hashCode"};
    private static final int MOST_PARAMETERS = 7;
    /** The rules say "some sixty lines", "some twelve classes" and "some twenty fields". */
    private static final int MOST_LINES = 66;
    private static final int MOST_CLASSES = 13;
    private static final int MOST_FIELDS = 22;
    /** 600,000 objects and 7.3 million fields and elements, with 16 and 8 bytes for each. */
    private static final long ROOM = 600_000L * 16 + 7_300_000L * 8;

    public static void main(String[] args) throws IOException {
        List<String> lines = code(Files.readString(Path.of("src/main/java/LearnedRanker.java")));
        words(lines);
        lengths(lines);
        members();
        room();
        Due.end();
    }

    /** The lines of a program without its comments. */
    private static List<String> code(String text) {
        String bare = text.replaceAll("(?s)/\\*.*?\\*/", "").replaceAll("//[^\n]*", "");
        return List.of(bare.split("\n"));
    }

    // Rules 1, 2, 4, 6 and 13
    private static void words(List<String> lines) {
        for (String line : lines) {
            String bare = line.trim();
            if (bare.startsWith("import ")) {
                Due.holds(bare, IMPORTS.contains(bare.substring(7, bare.length() - 1)));
            }
            boolean isCase = bare.startsWith("case ") || bare.startsWith("default ");
            Due.holds("no lambda: " + bare, isCase || !bare.contains("->"));
            Due.holds("no method reference: " + bare, !bare.contains("::"));
            for (String word : FORBIDDEN) {
                Due.holds("no " + word + ": " + bare, !bare.matches(".*\\b" + word + "\\b.*"));
            }
        }
    }

    // Rule 11: "Methods stay short"; a method ends with a brace as far in as it began.
    private static void lengths(List<String> lines) {
        for (int start = 0; start < lines.size(); start++) {
            String line = lines.get(start);
            if (line.matches("( {4}| {8})[\\w<\\[][^=;]*\\(.*\\) \\{") && !line.contains(" class ")) {
                String end = line.substring(0, line.indexOf(line.trim())) + "}";
                int length = lines.subList(start, lines.size()).indexOf(end) + 1;
                boolean isStatement = line.matches(" *(if|for|while|switch) .*");
                Due.holds("lines of " + line.trim(), isStatement || (length > 0 && length <= MOST_LINES));
            }
        }
    }

    // Rules 5 and 11
    private static void members() {
        List<Class<?>> classes = new ArrayList<>(List.of(LearnedRanker.class));
        classes.addAll(List.of(LearnedRanker.class.getDeclaredClasses()));
        Due.holds("classes: " + classes.size(), classes.size() <= MOST_CLASSES);
        for (Class<?> each : classes) {
            int fields = 0;
            for (Field field : each.getDeclaredFields()) {
                boolean isStatic = Modifier.isStatic(field.getModifiers());
                fields += isStatic ? 0 : 1;
                Due.holds(field + " is final if static", !isStatic || Modifier.isFinal(field.getModifiers()));
            }
            Due.holds("fields of " + each + ": " + fields, fields <= MOST_FIELDS);
            List<Executable> callable = new ArrayList<>(List.of(each.getDeclaredMethods()));
            callable.addAll(List.of(each.getDeclaredConstructors()));
            for (Executable one : callable) {
                Due.holds("parameters of " + one, one.getParameterCount() <= MOST_PARAMETERS);
            }
        }
    }

    // "All calls of one run live in ONE room": the dearest ones, as many as an object is used for.
    private static void room() {
        var threads = (com.sun.management.ThreadMXBean) ManagementFactory.getThreadMXBean();
        long before = threads.getCurrentThreadAllocatedBytes();
        LearnedRanker x = new LearnedRanker();
        x.query(0, 4095);
        x.depth(16);
        for (int d = 0; d < 16; d++) {
            Make.put(x, d, d, d * 5 % 16, d * 3 % 16, d * 7 % 16, 15 - d);
            x.judge(0, d, d * 3 % 8);
        }
        long dearest = 0;
        for (int i = 0; i < 100; i++) {
            dearest += x.train(4, 2, 1) + x.merit(0, true) + x.ranked(0, 15, true) + x.rest(15);
        }
        long used = threads.getCurrentThreadAllocatedBytes() - before;
        Due.holds("something was done", dearest != 0);
        Due.holds("some 500 calls made " + used + " bytes of objects", used <= ROOM);
    }
}
