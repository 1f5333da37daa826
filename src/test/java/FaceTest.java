import java.lang.reflect.Constructor;
import java.lang.reflect.Field;
import java.lang.reflect.Method;
import java.lang.reflect.Modifier;
import java.util.Arrays;
import java.util.Set;
import java.util.TreeSet;

/** The public face is that of the document, and nothing else is seen from outside. */
public final class FaceTest {
    private static final Set<String> FACE = new TreeSet<>(Arrays.asList(
            "public boolean ShapedItems.type(int) throws java.lang.IllegalArgumentException",
            "public int ShapedItems.rule(int) throws java.lang.IndexOutOfBoundsException,java.lang.IllegalArgumentException",
            "public boolean ShapedItems.forget(int) throws java.lang.IndexOutOfBoundsException",
            "public int ShapedItems.feed(long,int)",
            "public int ShapedItems.wipe()",
            "public int ShapedItems.items() throws java.lang.IllegalArgumentException",
            "public int ShapedItems.major(int) throws java.lang.IllegalArgumentException,java.lang.IndexOutOfBoundsException",
            "public long ShapedItems.number(int) throws java.lang.IllegalArgumentException,java.lang.IndexOutOfBoundsException",
            "public int ShapedItems.depth(int) throws java.lang.IllegalArgumentException,java.lang.IndexOutOfBoundsException",
            "public int ShapedItems.check(int) throws java.lang.IndexOutOfBoundsException,java.util.NoSuchElementException,"
                    + "java.lang.IllegalStateException",
            "public boolean ShapedItems.matches(int) throws java.lang.IndexOutOfBoundsException,"
                    + "java.util.NoSuchElementException,java.lang.IllegalStateException,java.lang.IllegalArgumentException",
            "public boolean ShapedItems.matchesAt(int,int) throws java.lang.IndexOutOfBoundsException,"
                    + "java.util.NoSuchElementException,java.lang.IllegalStateException,java.lang.IllegalArgumentException",
            "public ShapedItems()",
            "public static final int ShapedItems.NONE"));

    private static Set<String> seen() {
        Set<String> seen = new TreeSet<>();
        for (Method m : ShapedItems.class.getDeclaredMethods()) {
            if (!Modifier.isPrivate(m.getModifiers())) {
                seen.add(m.toString());
            }
        }
        for (Constructor<?> c : ShapedItems.class.getDeclaredConstructors()) {
            seen.add(c.toString());
        }
        for (Field f : ShapedItems.class.getDeclaredFields()) {
            if (!Modifier.isPrivate(f.getModifiers())) {
                seen.add(f.toString());
            }
        }
        return seen;
    }

    /** No method inside bears the name of a public one. */
    private static boolean namesAreApart() {
        for (Class<?> c : ShapedItems.class.getDeclaredClasses()) {
            for (Method m : c.getDeclaredMethods()) {
                if (FACE.stream().anyMatch(f -> f.contains("." + m.getName() + "("))) {
                    return false;
                }
            }
        }
        return true;
    }

    public static void main(String[] args) {
        Due.due("the face", FACE, FaceTest::seen);
        Due.due("the names apart", true, FaceTest::namesAreApart);
        Due.due("public final", Modifier.PUBLIC | Modifier.FINAL, () -> ShapedItems.class.getModifiers());
        Due.end();
    }
}
