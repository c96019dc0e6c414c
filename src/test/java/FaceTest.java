import java.io.IOException;
import java.lang.reflect.Constructor;
import java.lang.reflect.Field;
import java.lang.reflect.Method;
import java.lang.reflect.Modifier;
import java.nio.file.Files;
import java.nio.file.Path;
import java.util.Arrays;
import java.util.Set;
import java.util.TreeSet;
import java.util.regex.Matcher;
import java.util.regex.Pattern;

/** The public face of the document, and those rules of LANGUAGE.md that can be seen by a plain look. */
final class FaceTest {
    private static final String FACE = "boolean accept(int) | boolean hang(int) | boolean invite(int)"
            + " | boolean refuse(int) | boolean unit(int) | int bring(int) | int flying() | int inject(int)"
            + " | int line(int, int, int) | int lose(int) | int media(int, int, int) | int pass(int)"
            + " | int sign(int, int) | int told(int, int) | int twice(int)";
    private static final String[] FORBIDDEN = {"throw", "try", "catch", "synchronized", "assert", "import", "package",
        "->", "::", "native", "Object", "System.currentTimeMillis", "random", "protected", "hashCode", "toString"};

    public static void main(String[] args) throws IOException {
        face();
        language();
        Check.finish("FaceTest");
    }

    private static void face() {
        Class<?> face = CallAgents.class;
        Check.due("public and final", Modifier.toString(face.getModifiers()), "public final");
        Set<String> methods = new TreeSet<>();
        for (Method method : face.getDeclaredMethods()) {
            String types = Arrays.toString(method.getParameterTypes()).replaceAll("[\\[\\]]", "");
            if (!Modifier.isPrivate(method.getModifiers())) {
                methods.add(method.getReturnType() + " " + method.getName() + "(" + types + ")");
            }
        }
        Check.due("the methods", String.join(" | ", methods), FACE);
        Set<String> fields = new TreeSet<>();
        for (Field field : face.getDeclaredFields()) {
            if (!Modifier.isPrivate(field.getModifiers())) {
                fields.add(Modifier.toString(field.getModifiers()) + " " + field.getType() + " " + field.getName());
            }
        }
        Check.due("the constants", String.join(" | ", fields), "public static final int BAD | public static final int NONE");
        Constructor<?>[] constructors = face.getDeclaredConstructors();
        Check.due("constructors", constructors.length, 1);
        Check.due("its parameters", constructors[0].getParameterCount(), 0);
        Check.due("some twelve classes", face.getDeclaredClasses().length <= 11, true);
        for (Class<?> inner : face.getDeclaredClasses()) {
            inner(inner);
        }
    }

    private static void inner(Class<?> inner) {
        Check.due(inner + " is static", Modifier.isStatic(inner.getModifiers()), true);
        int fields = 0;
        for (Field field : inner.getDeclaredFields()) {
            boolean fixed = Modifier.isStatic(field.getModifiers());
            fields += fixed ? 0 : 1;
            Check.due(field + " is final, if static", !fixed || Modifier.isFinal(field.getModifiers()), true);
        }
        Check.due(inner + ": some twenty fields", fields <= 20, true);
        for (Method method : inner.getDeclaredMethods()) {
            Check.due(method + " bears no public name", FACE.contains(" " + method.getName() + "("), false);
            Check.due(method + ": at most seven parameters", method.getParameterCount() <= 7, true);
        }
    }

    private static void language() throws IOException {
        String source = Files.readString(Path.of("src/main/java/CallAgents.java"));
        String code = source.replaceAll("(?s)/\\*.*?\\*/", "").replaceAll("//.*", "").replaceAll("\"[^\"]*\"", "\"\"");
        for (String word : FORBIDDEN) {
            Matcher found = Pattern.compile("(?<!\\w)" + Pattern.quote(word) + "(?!\\w)").matcher(code);
            Check.due("the source has " + word, found.find(), false);
        }
        Check.due("texts hold signs 0 to 255", source.chars().allMatch(sign -> sign < 256), true);
    }
}
