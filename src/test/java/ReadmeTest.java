import java.io.IOException;
import java.lang.reflect.Field;
import java.lang.reflect.Method;
import java.lang.reflect.Modifier;
import java.nio.file.DirectoryStream;
import java.nio.file.Files;
import java.nio.file.Path;
import java.util.Arrays;
import java.util.regex.Matcher;
import java.util.regex.Pattern;

/** README.md names every call and every test, and the calls of its example answer as it says. */
public final class ReadmeTest {
    private static final Path README = Path.of("README.md");
    private static final Path TESTS = Path.of("src/test/java");

    /** A call whose arguments are numbers: the innermost one, where calls stand in one another. */
    private static final Pattern CALL = Pattern.compile("x\\.(\\w+)\\(([-0-9, ]*)\\)");
    private static final Pattern LINE = Pattern.compile("(x\\..*); +// (-?[0-9]+|true|false)\\b.*");

    public static void main(String[] args) throws IOException, ReflectiveOperationException {
        String text = Files.readString(README);
        calls(text);
        constants(text);
        tests(text);
        Due.due("the limit of calls", text.contains("at most 512 calls after it has been made"), true);
        Due.due("how an object is made", text.contains("new EpochDirectory(width)"), true);
        Due.due("how to run the tests", text.contains("\n    .ci/run\n"), true);
        example(text);
        Due.end();
    }

    private static void calls(String text) {
        for (Method method : EpochDirectory.class.getDeclaredMethods()) {
            if (Modifier.isPublic(method.getModifiers())) {
                Due.due(method.getName() + "() is told", text.contains("`" + method.getName() + "("), true);
            }
        }
    }

    private static void constants(String text) throws ReflectiveOperationException {
        for (Field field : EpochDirectory.class.getFields()) {
            String told = "`" + field.getName() + "` is " + field.getInt(null);
            Due.due(told + " is told", text.contains(told), true);
        }
    }

    private static void tests(String text) throws IOException {
        try (DirectoryStream<Path> sources = Files.newDirectoryStream(TESTS, "*Test.java")) {
            for (Path source : sources) {
                String name = source.getFileName().toString().replace(".java", "");
                Due.due(name + " is told", text.contains("| `" + name + "` |"), true);
            }
        }
    }

    private static void example(String text) throws ReflectiveOperationException {
        int start = text.indexOf("```java");
        String block = text.substring(start, text.indexOf("```", start + 1));
        EpochDirectory x = new EpochDirectory(31);
        int answers = 0;
        for (String line : block.split("\n")) {
            Matcher parts = LINE.matcher(line);
            if (parts.matches()) {
                answers++;
                String answer = answer(x, parts.group(1));
                Due.due(line + " answered " + answer, answer.equals(parts.group(2)), true);
            }
        }
        Due.due("every line but the fences and the first is a call", answers, block.lines().count() - 2);
    }

    private static String answer(EpochDirectory x, String call) throws ReflectiveOperationException {
        String left = call;
        Matcher inner = CALL.matcher(left);
        while (inner.find()) {
            String answer = one(x, inner.group(1), inner.group(2));
            left = left.substring(0, inner.start()) + answer + left.substring(inner.end());
            inner = CALL.matcher(left);
        }
        return left;
    }

    private static String one(EpochDirectory x, String name, String numbers)
            throws ReflectiveOperationException {
        Object[] arguments = numbers.isEmpty()
                ? new Object[0]
                : Arrays.stream(numbers.split(", ")).map(Integer::valueOf).toArray();
        Class<?>[] types = new Class<?>[arguments.length];
        Arrays.fill(types, int.class);
        return String.valueOf(EpochDirectory.class.getMethod(name, types).invoke(x, arguments));
    }
}
