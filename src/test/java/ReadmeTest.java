import java.io.IOException;
import java.lang.reflect.Method;
import java.lang.reflect.Modifier;
import java.nio.file.Files;
import java.nio.file.Path;
import java.util.HashSet;
import java.util.List;
import java.util.Set;
import java.util.regex.Matcher;
import java.util.regex.Pattern;
import java.util.stream.Collectors;
import java.util.stream.Stream;

/** README.md tells what is so: its example answers as it says, and it names every call of the face and every test. */
public final class ReadmeTest {
    private static final Pattern EXAMPLE = Pattern.compile("(?s)```java\n(.*?)```");
    private static final Pattern CALL = Pattern.compile("x\\.(\\w+)\\(([-0-9, ]*)\\); +// (true|false|-?\\d+): .*");
    private static final Pattern ROW = Pattern.compile("(?m)^\\| `(\\w+)\\(([\\w, ]*)\\)` \\|.*\\|.*\\|$");
    private static final Pattern TEST = Pattern.compile("`(\\w+Test)`");

    private static Object[] numbers(String text) {
        return text.isEmpty() ? new Object[0] : Stream.of(text.split(", ")).map(Integer::valueOf).toArray();
    }

    private static Method callNamed(String name) {
        for (Method m : FiberHeap.class.getMethods()) {
            if (m.getDeclaringClass() == FiberHeap.class && m.getName().equals(name)) {
                return m;
            }
        }
        return null;
    }

    private static void example(String readme) throws ReflectiveOperationException {
        Matcher block = EXAMPLE.matcher(readme);
        Due.yes("README.md has an example", block.find());
        List<String> lines = block.group(1).lines().toList();
        Due.yes("the example makes an object", lines.get(0).startsWith("FiberHeap x = new FiberHeap();"));
        FiberHeap x = new FiberHeap();
        for (String line : lines.subList(1, lines.size())) {
            Matcher call = CALL.matcher(line);
            if (!call.matches()) {
                Due.yes("a call with its answer: " + line, false);
                continue;
            }
            Object answer = callNamed(call.group(1)).invoke(x, numbers(call.group(2)));
            Due.yes(line + " and not " + answer, answer.toString().equals(call.group(3)));
        }
    }

    private static void calls(String readme) {
        Set<String> told = new HashSet<>();
        Matcher row = ROW.matcher(readme);
        while (row.find()) {
            int parameters = row.group(2).isEmpty() ? 0 : row.group(2).split(", ").length;
            told.add(row.group(1) + " of " + parameters);
        }
        Set<String> due = new HashSet<>();
        for (Method m : FiberHeap.class.getDeclaredMethods()) {
            if (Modifier.isPublic(m.getModifiers())) {
                due.add(m.getName() + " of " + m.getParameterCount());
            }
        }
        Due.yes("the table has every call of the face and no other: " + told, told.equals(due));
    }

    private static void tests(String readme) throws IOException {
        Set<String> told = new HashSet<>();
        Matcher test = TEST.matcher(readme);
        while (test.find()) {
            told.add(test.group(1));
        }
        try (Stream<Path> files = Files.list(Path.of("src/test/java"))) {
            Set<String> due = files.map(p -> p.getFileName().toString()).filter(n -> n.endsWith("Test.java"))
                .map(n -> n.substring(0, n.length() - ".java".length())).collect(Collectors.toSet());
            Due.yes("README.md names every test and no other: " + told, told.equals(due));
        }
        Due.yes("README.md tells how the tests are run", readme.contains("`.ci/run`"));
    }

    public static void main(String[] args) throws IOException, ReflectiveOperationException {
        String readme = Files.readString(Path.of("README.md"));
        example(readme);
        calls(readme);
        tests(readme);
        Due.close();
    }
}
