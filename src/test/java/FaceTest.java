import java.io.IOException;
import java.lang.reflect.Constructor;
import java.lang.reflect.Field;
import java.lang.reflect.Method;
import java.lang.reflect.Modifier;
import java.nio.file.Files;
import java.nio.file.Path;
import java.util.Arrays;
import java.util.Set;
import java.util.TreeSet;
import java.util.regex.Matcher;
import java.util.regex.Pattern;

/** The public face is the document's and no more, and the source keeps to the rules that can be seen in its text. */
public final class FaceTest {
    private static final String[] FACE = {
        "public OrderedBytes(int,int)",
        "public int OrderedBytes.feed(long,int) throws IllegalArgumentException,IllegalStateException",
        "public boolean OrderedBytes.put(int) throws IllegalArgumentException,IllegalStateException",
        "public int OrderedBytes.get() throws IllegalArgumentException,NoSuchElementException",
        "public boolean OrderedBytes.remove() throws IllegalArgumentException",
        "public int OrderedBytes.seek(int) throws IllegalArgumentException,NoSuchElementException",
        "public int OrderedBytes.at(int) throws IndexOutOfBoundsException",
        "public boolean OrderedBytes.step(boolean) throws IllegalStateException",
        "public int OrderedBytes.value() throws IllegalStateException",
        "public int OrderedBytes.place() throws IllegalStateException",
        "public int OrderedBytes.range() throws IllegalArgumentException,IllegalStateException",
        "public int OrderedBytes.removeFrom(int) throws IllegalArgumentException,IllegalStateException",
        "public int OrderedBytes.clear()",
        "public int OrderedBytes.byteAt(int) throws IndexOutOfBoundsException",
        "public int OrderedBytes.count(int)",
        "public boolean OrderedBytes.sound()",
        "public static final int OrderedBytes.NONE",
    };
    private static final String[] FORBIDDEN = {
        "\\btry\\b", "\\bcatch\\b", "\\bfinally\\b", "\\bassert\\b", "\\bsynchronized\\b", "->", "::", "Exact\\(",
        "\\bprotected\\b", "static \\{", "\\bpackage\\b", "System\\.(?!arraycopy)", "Random", "Thread", "\\.equals\\(",
    };

    private FaceTest() {
    }

    public static void main(String[] args) throws IOException {
        Check.due("the face", new TreeSet<>(Arrays.asList(FACE)), FaceTest::face);
        Check.due("the class is public and final", true, () ->
            (OrderedBytes.class.getModifiers() & (Modifier.PUBLIC | Modifier.FINAL)) == (Modifier.PUBLIC | Modifier.FINAL));
        Check.due("private methods with public names", new TreeSet<String>(), FaceTest::namesUsedTwice);
        String source = Files.readString(Path.of("src/main/java/OrderedBytes.java"));
        for (String forbidden : FORBIDDEN) {
            Matcher matcher = Pattern.compile(forbidden).matcher(source);
            Check.due("the source has " + forbidden, false, matcher::find);
        }
        Check.end();
    }

    /** All members that are not private. */
    private static Set<String> face() {
        Set<String> face = new TreeSet<>();
        for (Constructor<?> member : OrderedBytes.class.getDeclaredConstructors()) {
            add(face, member.getModifiers(), member.toGenericString());
        }
        for (Method member : OrderedBytes.class.getDeclaredMethods()) {
            add(face, member.getModifiers(), member.toGenericString());
        }
        for (Field member : OrderedBytes.class.getDeclaredFields()) {
            add(face, member.getModifiers(), member.toGenericString());
        }
        return face;
    }

    private static void add(Set<String> face, int modifiers, String text) {
        if (!Modifier.isPrivate(modifiers)) {
            face.add(text.replace("java.lang.", "").replace("java.util.", ""));
        }
    }

    private static Set<String> namesUsedTwice() {
        Set<String> open = new TreeSet<>();
        Set<String> hidden = new TreeSet<>();
        for (Method method : OrderedBytes.class.getDeclaredMethods()) {
            (Modifier.isPrivate(method.getModifiers()) ? hidden : open).add(method.getName());
        }
        hidden.retainAll(open);
        return hidden;
    }
}
