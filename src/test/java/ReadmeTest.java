import java.io.IOException;
import java.lang.reflect.Method;
import java.lang.reflect.Modifier;
import java.nio.file.Files;
import java.nio.file.Path;
import java.util.List;
import java.util.regex.Matcher;
import java.util.regex.Pattern;
import java.util.stream.Stream;

/** README.md: its example's answers are the class's, and it names each call and each test. */
final class ReadmeTest {
    private static final Check CHECK = new Check("ReadmeTest");
    private static final Pattern CALL = Pattern.compile("(?m)^x\\.(\\w+)\\(([^)]*)\\); +// (-?\\d+): ");
    private static final Pattern TEXT = Pattern.compile("for \\(char c : \"((?:[^\"\\\\]|\\\\.)*)\"");

    public static void main(String[] args) throws IOException, ReflectiveOperationException {
        String readme = Files.readString(Path.of("README.md"));
        int begin = readme.indexOf("```java");
        String example = readme.substring(begin, readme.indexOf("```\n", begin + 7));
        answersAreAsTold(example);
        CHECK.due("calls without an answer", example.lines().filter(line -> line.startsWith("x.")).count(),
                CALL.matcher(example).results().count());
        namesEachCall(readme);
        namesEachTest(readme);
        CHECK.end();
    }

    private static void answersAreAsTold(String example) throws ReflectiveOperationException {
        PaintedLines x = new PaintedLines();
        Matcher text = TEXT.matcher(example);
        CHECK.isTrue("the example has a text", text.find());
        Check.write(x, text.group(1).translateEscapes());
        Matcher call = CALL.matcher(example);
        while (call.find()) {
            CHECK.due(call.group(), answer(x, call.group(1), call.group(2)), Long.parseLong(call.group(3)));
        }
    }

    private static long answer(PaintedLines x, String name, String numbers) throws ReflectiveOperationException {
        List<Integer> all = Stream.of(numbers.split(", *")).filter(number -> !number.isEmpty())
                .map(Integer::valueOf).toList();
        Class<?>[] types = all.stream().map(number -> int.class).toArray(Class<?>[]::new);
        return ((Number) PaintedLines.class.getMethod(name, types).invoke(x, all.toArray())).longValue();
    }

    private static void namesEachCall(String readme) {
        for (Method method : PaintedLines.class.getDeclaredMethods()) {
            if (Modifier.isPublic(method.getModifiers())) {
                CHECK.isTrue("a row for " + method.getName(), readme.contains("\n| `" + method.getName() + "("));
            }
        }
    }

    private static void namesEachTest(String readme) throws IOException {
        try (Stream<Path> files = Files.list(Path.of("src/test/java"))) {
            for (Path file : files.filter(path -> path.toString().endsWith("Test.java")).toList()) {
                String name = file.getFileName().toString().replace(".java", "");
                CHECK.isTrue(name + " is named", readme.contains("`" + name + "`"));
            }
        }
    }
}
