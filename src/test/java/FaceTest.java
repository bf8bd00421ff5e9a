import java.lang.management.ManagementFactory;
import java.lang.reflect.Constructor;
import java.lang.reflect.Field;
import java.lang.reflect.Method;
import java.lang.reflect.Modifier;
import java.util.Set;
import java.util.TreeSet;

/** The public face is the document's and no more, and the calls of a run make no objects. */
public final class FaceTest {
    private static final String[] FACE = {
        "int hash(int, int, int)", "int put(int, int)", "int close()", "boolean fuse(int)",
        "int restart()", "int root(int)", "int head(int)", "int block(int, int)", "int size(int)",
        "int prove(int, int, int, int)", "int word(int, int)", "boolean poke(int, int, int)",
        "boolean trim(int, int)", "int check(int, int, int)",
        "boolean included(int, int, int, int, int)", "boolean consistent(int, int, int, int, int)",
        "boolean follow(int, int, int)", "int seen(int)", "boolean extract(int, int, int, int)",
        "int clash(int)",
    };

    public static void main(String[] args) {
        methods();
        fieldsAndConstructor();
        callsMakeNoObjects();
        Due.end();
    }

    private static void methods() {
        Set<String> seen = new TreeSet<>();
        Set<String> publicNames = new TreeSet<>();
        Set<String> privateNames = new TreeSet<>();
        for (Method method : EpochDirectory.class.getDeclaredMethods()) {
            if (Modifier.isPrivate(method.getModifiers())) {
                privateNames.add(method.getName());
            } else {
                seen.add(signature(method));
                publicNames.add(method.getName());
                Due.due(method + " is public", Modifier.isPublic(method.getModifiers()), true);
                Due.due(method + " is static", Modifier.isStatic(method.getModifiers()), false);
            }
        }
        Due.due("the methods are those of the face", seen.equals(Set.of(FACE)), true);
        privateNames.retainAll(publicNames);
        Due.due("private methods with a public name", privateNames.size(), 0);
    }

    private static String signature(Method method) {
        StringBuilder text = new StringBuilder();
        text.append(method.getReturnType()).append(' ').append(method.getName()).append('(');
        for (int i = 0; i < method.getParameterCount(); i++) {
            text.append(i == 0 ? "" : ", ").append(method.getParameterTypes()[i]);
        }
        return text.append(')').toString();
    }

    private static void fieldsAndConstructor() {
        Due.due("DOWN", EpochDirectory.DOWN, -9);
        Due.due("FULL", EpochDirectory.FULL, -2);
        Due.due("final", Modifier.isFinal(EpochDirectory.class.getModifiers()), true);
        for (Field field : EpochDirectory.class.getDeclaredFields()) {
            boolean isFace = field.getName().equals("DOWN") || field.getName().equals("FULL");
            Due.due(field + " is public", Modifier.isPublic(field.getModifiers()), isFace);
            Due.due(field + " is private", Modifier.isPrivate(field.getModifiers()), !isFace);
            if (Modifier.isStatic(field.getModifiers())) {
                Due.due(field + " is final", Modifier.isFinal(field.getModifiers()), true);
            }
        }
        Constructor<?>[] constructors = EpochDirectory.class.getDeclaredConstructors();
        Due.due("constructors", constructors.length, 1);
        Due.due("its parameters", constructors[0].getParameterCount(), 1);
        for (Class<?> inside : EpochDirectory.class.getDeclaredClasses()) {
            Due.due(inside + " is static", Modifier.isStatic(inside.getModifiers()), true);
            Due.due(inside + " is public", Modifier.isPublic(inside.getModifiers()), false);
        }
    }

    /** The second run is measured: in the first one the classes are loaded. */
    private static void callsMakeNoObjects() {
        oneRun(new EpochDirectory(8));
        EpochDirectory x = new EpochDirectory(8);
        var thread = (com.sun.management.ThreadMXBean) ManagementFactory.getThreadMXBean();
        long before = thread.getCurrentThreadAllocatedBytes();
        long again = thread.getCurrentThreadAllocatedBytes();
        oneRun(x);
        long after = thread.getCurrentThreadAllocatedBytes();
        long measuring = again - before;
        Due.due("bytes that the calls took", after - again - measuring, 0);
    }

    /** 26 times 19 calls at most: an object is used for 512. */
    private static int oneRun(EpochDirectory x) {
        int sum = 0;
        for (int i = 0; i < 26; i++) {
            sum += x.put(i * 5 % 64, i + 1) + x.put(63 - i, i + 1) + x.close();
            sum += x.prove(0, 0, i, i / 2) + x.check(0, i, x.root(i / 2));
            sum += x.prove(1, 1, i / 2, i / 2) + x.prove(2, 2, i / 3, i / 2);
            sum += x.included(1, i / 2, i / 2, x.root(i / 2), x.head(i / 2)) ? 1 : 0;
            sum += x.follow(2, i / 2, x.head(i / 2)) ? 1 : 0;
            sum += x.extract(0, 1, i, x.root(i)) ? 1 : 0;
            sum += x.poke(3, i, i) && x.trim(3, i / 2) ? 1 : 0;
            sum += x.fuse(60) ? 1 : x.restart();
        }
        return sum;
    }
}
