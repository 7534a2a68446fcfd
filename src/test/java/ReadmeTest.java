import java.io.IOException;
import java.lang.reflect.Method;
import java.lang.reflect.Modifier;
import java.nio.charset.StandardCharsets;
import java.nio.file.DirectoryStream;
import java.nio.file.Files;
import java.nio.file.Path;
import java.util.List;
import java.util.regex.Matcher;
import java.util.regex.Pattern;

/** README.md tells the class and its tests as they are: its calls answer so, and none is left out. */
final class ReadmeTest extends Dues {
    private static final Pattern CALL =
            Pattern.compile("x\\.(\\w+)\\(([-\\d, ]*)\\); +// (-?\\d+|NONE|NOTHING)(: .*)?");

    private WholeSolver x;
    private int callsMade;

    public static void main(String[] args) throws IOException, ReflectiveOperationException {
        ReadmeTest test = new ReadmeTest();
        List<String> lines = Files.readAllLines(Path.of("README.md"), StandardCharsets.UTF_8);
        test.runExamples(lines);
        test.namesEachCall(lines);
        test.namesEachTest(lines);
        test.end();
    }

    private void runExamples(List<String> lines) throws ReflectiveOperationException {
        boolean inside = false;
        for (String line : lines) {
            if (line.startsWith("```")) {
                inside = line.equals("```java");
            } else if (inside) {
                at("README.md, " + line);
                runLine(line);
            }
        }
        at("README.md");
        holds("there are calls in it", callsMade > 0);
    }

    private void runLine(String line) throws ReflectiveOperationException {
        if (line.equals("WholeSolver x = new WholeSolver();")) {
            x = new WholeSolver();
            return;
        }
        Matcher call = CALL.matcher(line);
        boolean read = x != null && call.matches();
        holds("a call with its answer", read);
        if (read) {
            due(call.group(1), answer(call.group(1), numbers(call.group(2))), number(call.group(3)));
            callsMade++;
        }
    }

    private long answer(String name, Object[] arguments) throws ReflectiveOperationException {
        Class<?>[] types = new Class<?>[arguments.length];
        for (int i = 0; i < types.length; i++) {
            types[i] = int.class;
        }
        return ((Number) WholeSolver.class.getMethod(name, types).invoke(x, arguments)).longValue();
    }

    private static Object[] numbers(String text) {
        if (text.isEmpty()) {
            return new Object[0];
        }
        String[] parts = text.split(", ");
        Object[] numbers = new Object[parts.length];
        for (int i = 0; i < parts.length; i++) {
            numbers[i] = Integer.parseInt(parts[i]);
        }
        return numbers;
    }

    private static long number(String text) {
        switch (text) {
            case "NONE":
                return NONE;
            case "NOTHING":
                return NOTHING;
            default:
                return Long.parseLong(text);
        }
    }

    private void namesEachCall(List<String> lines) {
        at("README.md, the calls");
        for (Method method : WholeSolver.class.getDeclaredMethods()) {
            if (Modifier.isPublic(method.getModifiers())) {
                String start = "| `" + method.getName() + "(";
                holds(start, lines.stream().anyMatch(line -> line.startsWith(start)));
            }
        }
    }

    private void namesEachTest(List<String> lines) throws IOException {
        at("README.md, the tests");
        try (DirectoryStream<Path> tests = Files.newDirectoryStream(Path.of("src", "test", "java"), "*Test.java")) {
            for (Path test : tests) {
                String start = "- `" + test.getFileName().toString().replace(".java", "") + "`: ";
                holds(start, lines.stream().anyMatch(line -> line.startsWith(start)));
            }
        }
    }
}
