import java.io.IOException;
import java.lang.reflect.Method;
import java.lang.reflect.Modifier;
import java.nio.file.Files;
import java.nio.file.Path;
import java.util.List;
import java.util.regex.Matcher;
import java.util.regex.Pattern;
import java.util.stream.Stream;

/** README.md is true: the calls of its example answer what it says, and no call and no test is left out. */
public final class ReadmeTest {
    private static final Check check = new Check();
    private static final Path PAGE = Path.of("README.md");
    private static final Path TESTS = Path.of("src/test/java");

    public static void main(String[] args) throws IOException, ReflectiveOperationException {
        String page = Files.readString(PAGE);
        theExample(page);
        theCalls(page);
        theTests(page);
        check.end();
    }

    private static void theExample(String page) throws ReflectiveOperationException {
        String code = page.substring(page.indexOf("```java"), page.indexOf("```\n", page.indexOf("```java")));
        Matcher text = Pattern.compile("\"(.*)\"\\.toCharArray").matcher(code);
        check.holds("the example has a text", text.find());
        SkipRope rope = new SkipRope();
        Check.type(rope, text.group(1));
        String calls = code.substring(code.indexOf("}\n") + 2);
        Pattern told = Pattern.compile("rope\\.(\\w+)\\((.*)\\); *// (-?[0-9]+)\\b.*");
        for (String line : calls.split("\n")) {
            if (!line.isBlank()) {
                Matcher m = told.matcher(line);
                boolean isTold = m.matches();
                check.holds("a call and its answer: " + line, isTold);
                if (isTold) {
                    check.due(line, call(rope, m.group(1), m.group(2)), Long.parseLong(m.group(3)));
                }
            }
        }
    }

    private static long call(SkipRope rope, String name, String numbers) throws ReflectiveOperationException {
        Object[] values = Stream.of(numbers.split(", ")).filter(n -> !n.isEmpty()).map(Integer::valueOf).toArray();
        for (Method m : SkipRope.class.getDeclaredMethods()) {
            if (m.getName().equals(name) && m.getParameterCount() == values.length) {
                return ((Number) m.invoke(rope, values)).longValue();
            }
        }
        check.holds("there is a call " + name + "(" + numbers + ")", false);
        return SkipRope.NO;
    }

    private static void theCalls(String page) {
        for (Method m : SkipRope.class.getDeclaredMethods()) {
            if (Modifier.isPublic(m.getModifiers())) {
                Matcher row = Pattern.compile("(?m)^\\| `" + m.getName() + "\\((.*)\\)` \\|").matcher(page);
                boolean isTold = row.find();
                check.holds("a row tells " + m.getName(), isTold);
                if (isTold) {
                    long named = Stream.of(row.group(1).split(", ")).filter(n -> !n.isEmpty()).count();
                    check.due("numbers that " + m.getName() + " takes", named, m.getParameterCount());
                }
            }
        }
    }

    private static void theTests(String page) throws IOException {
        List<String> files;
        try (Stream<Path> all = Files.list(TESTS)) {
            files = all.map(file -> file.getFileName().toString()).filter(name -> name.endsWith("Test.java")).toList();
        }
        for (String file : files) {
            check.holds("a row tells " + file, page.contains("\n| " + file.replace(".java", "") + " |"));
        }
        long rows = page.lines().filter(line -> line.matches("\\| \\w+Test \\|.*")).count();
        check.due("tests that the page tells", rows, files.size());
    }
}
