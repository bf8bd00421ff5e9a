import java.io.IOException;
import java.lang.reflect.Constructor;
import java.lang.reflect.Field;
import java.lang.reflect.Method;
import java.lang.reflect.Modifier;
import java.nio.file.Files;
import java.nio.file.Path;
import java.util.ArrayList;
import java.util.List;
import java.util.Set;
import java.util.regex.Pattern;

/** The rules of LANGUAGE.md that can be counted in the source and in its classes. */
public final class LanguageTest {
    private static final Path SOURCE = Path.of("src/main/java/EpochDirectory.java");
    private static final Pattern LEFT_OUT = Pattern.compile(
            "\\b(import|package|synchronized|assert|finally|try|catch|throw|throws|native|volatile"
            + "|transient|System|Object|equals|hashCode|toString|double|float|Exact)\\b|->|::");
    private static final Set<String> CONSTANTS = Set.of("int", "long", "boolean", "char", "String");
    private static final int MOST_PARAMETERS = 7;
    private static final int MOST_LINES = 60;
    private static final int MOST_CLASSES = 12;
    private static final int MOST_FIELDS = 20;

    public static void main(String[] args) throws IOException {
        List<String> code = codeOf(Files.readAllLines(SOURCE));
        wordsThatAreLeftOut(code);
        methodsStayShort(code);
        for (Class<?> one : classes()) {
            parameters(one);
            fields(one);
            nesting(one);
        }
        Due.due("rule 11: at most 12 classes", classes().size() <= MOST_CLASSES, true);
        Due.end();
    }

    private static List<Class<?>> classes() {
        List<Class<?>> classes = new ArrayList<>();
        classes.add(EpochDirectory.class);
        classes.addAll(List.of(EpochDirectory.class.getDeclaredClasses()));
        return classes;
    }

    /** The lines with those of comments made empty: in this source a comment has lines of its own. */
    private static List<String> codeOf(List<String> lines) {
        List<String> code = new ArrayList<>();
        for (String line : lines) {
            String start = line.strip();
            boolean isComment = start.startsWith("/*") || start.startsWith("*") || start.startsWith("//");
            code.add(isComment ? "" : line);
        }
        return code;
    }

    private static void wordsThatAreLeftOut(List<String> code) {
        for (int i = 0; i < code.size(); i++) {
            boolean found = LEFT_OUT.matcher(code.get(i)).find();
            Due.due("rules 2 to 6, 10 and 13: line " + (i + 1) + ": " + code.get(i), found, false);
            boolean plain = code.get(i).chars().allMatch(c -> c < 128);
            Due.due("rule 3: line " + (i + 1) + " has plain characters", plain, true);
        }
    }

    private static void methodsStayShort(List<String> code) {
        int methods = 0;
        for (int i = 0; i < code.size(); i++) {
            String line = code.get(i);
            int indent = line.length() - line.stripLeading().length();
            boolean isHeader = (indent == 4 || indent == 8) && line.endsWith(") {")
                    && !line.strip().matches("(if|for|while|switch|\\}).*");
            if (isHeader) {
                int end = i;
                while (end < code.size() && !code.get(end).equals(" ".repeat(indent) + "}")) {
                    end++;
                }
                methods++;
                Due.due("rule 11: lines of " + line.strip(), end - i < MOST_LINES, true);
            }
        }
        Due.due("methods were found", methods > 40, true);
    }

    private static void parameters(Class<?> one) {
        for (Method method : one.getDeclaredMethods()) {
            boolean few = method.getParameterCount() <= MOST_PARAMETERS;
            Due.due("rule 11: parameters of " + method, few, true);
        }
        for (Constructor<?> constructor : one.getDeclaredConstructors()) {
            boolean few = constructor.getParameterCount() <= MOST_PARAMETERS;
            Due.due("rule 11: parameters of " + constructor, few, true);
        }
    }

    private static void fields(Class<?> one) {
        int own = 0;
        for (Field field : one.getDeclaredFields()) {
            if (Modifier.isStatic(field.getModifiers())) {
                Due.due("rule 5: " + field, Modifier.isFinal(field.getModifiers()), true);
                String type = field.getType().getSimpleName();
                Due.due("rule 5: type of " + field, CONSTANTS.contains(type), true);
            } else {
                own++;
            }
        }
        Due.due("rule 11: fields of " + one, own <= MOST_FIELDS, true);
    }

    private static void nesting(Class<?> one) {
        if (one == EpochDirectory.class) {
            return;
        }
        Due.due("rule 1: " + one + " is static", Modifier.isStatic(one.getModifiers()), true);
        Due.due("rule 1: " + one + " is public", Modifier.isPublic(one.getModifiers()), false);
        Due.due("rule 1: " + one + " is protected", Modifier.isProtected(one.getModifiers()), false);
        for (Method method : one.getDeclaredMethods()) {
            Due.due("rule 1: the name of " + method, isOnTheFace(method.getName()), false);
        }
    }

    private static boolean isOnTheFace(String name) {
        for (Method method : EpochDirectory.class.getMethods()) {
            if (method.getDeclaringClass() == EpochDirectory.class && method.getName().equals(name)) {
                return true;
            }
        }
        return false;
    }
}
