import java.io.IOException;
import java.lang.reflect.Method;
import java.lang.reflect.Modifier;
import java.nio.file.Files;
import java.nio.file.Path;
import java.util.Set;
import java.util.TreeSet;
import java.util.regex.Matcher;
import java.util.regex.Pattern;
import java.util.stream.Stream;

/** What README.md shows: each call in it with its answer, a row for each method, and a row for each test. */
public final class ReadmeTest {
    private static final Pattern PUT = Pattern.compile("put\\(keep, \"(.*)\"\\);");
    private static final Pattern CALL = Pattern.compile("keep\\.(\\w+)\\(([-\\d, ]*)\\); +// (-?\\d+)\\b.*");
    private static final Pattern ROW = Pattern.compile("\\| `(\\w+)\\(([\\w, ]*)\\)` \\| .+ \\|");

    public static void main(String[] args) throws IOException, ReflectiveOperationException {
        String text = Files.readString(Path.of("README.md"));
        calls(text);
        methods(text);
        tests(text);
        Checks.finish("ReadmeTest");
    }

    /** Lives the page's calls on one object, from the first line to the last. */
    private static void calls(String text) throws ReflectiveOperationException {
        TideKeep keep = new TideKeep();
        int shown = 0;
        for (String line : text.split("\n")) {
            Matcher put = PUT.matcher(line);
            Matcher call = CALL.matcher(line);
            if (put.matches()) {
                Checks.put(keep, put.group(1));
            } else if (call.matches()) {
                Checks.due(line, answer(keep, call.group(1), call.group(2)), Integer.parseInt(call.group(3)));
                shown++;
            } else {
                Checks.due("read as a call: " + line, line.startsWith("keep.") || line.startsWith("put(") ? 1 : 0, 0);
            }
        }
        Checks.due("calls are shown", shown > 0 ? 1 : 0, 1);
    }

    private static int answer(TideKeep keep, String name, String arguments) throws ReflectiveOperationException {
        String[] words = arguments.isBlank() ? new String[0] : arguments.split(", ");
        Class<?>[] types = new Class<?>[words.length];
        Object[] values = new Object[words.length];
        for (int i = 0; i < words.length; i++) {
            types[i] = int.class;
            values[i] = Integer.valueOf(words[i]);
        }
        return (int) TideKeep.class.getMethod(name, types).invoke(keep, values);
    }

    private static void methods(String text) {
        Set<String> rows = new TreeSet<>();
        for (String line : text.split("\n")) {
            Matcher row = ROW.matcher(line);
            if (row.matches()) {
                int parameters = row.group(2).isEmpty() ? 0 : row.group(2).split(", ").length;
                Checks.due("one row alone: " + line, rows.add(row.group(1) + "/" + parameters) ? 1 : 0, 1);
            }
        }
        Set<String> face = new TreeSet<>();
        for (Method method : TideKeep.class.getDeclaredMethods()) {
            if (Modifier.isPublic(method.getModifiers())) {
                face.add(method.getName() + "/" + method.getParameterCount());
            }
        }
        Checks.due("rows " + rows + " beside the methods " + face, rows.equals(face) ? 1 : 0, 1);
    }

    private static void tests(String text) throws IOException {
        try (Stream<Path> files = Files.list(Path.of("src/test/java"))) {
            for (Path file : files.toList()) {
                String name = file.getFileName().toString().replace(".java", "");
                if (name.endsWith("Test")) {
                    Checks.due("a row for " + name, text.contains("| `" + name + "` |") ? 1 : 0, 1);
                }
            }
        }
    }
}
