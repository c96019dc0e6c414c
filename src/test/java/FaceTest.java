import java.io.IOException;
import java.lang.reflect.Constructor;
import java.lang.reflect.Field;
import java.lang.reflect.Method;
import java.lang.reflect.Modifier;
import java.nio.file.Files;
import java.nio.file.Path;
import java.util.Arrays;
import java.util.Set;
import java.util.TreeSet;
import java.util.regex.Matcher;
import java.util.regex.Pattern;

/** The public face of the document, and those rules of LANGUAGE.md that can be seen by a plain look. */
final class FaceTest {
    private static final String FACE = "boolean accept(int) | boolean hang(int) | boolean invite(int)"
            + " | boolean refuse(int) | boolean unit(int) | int bring(int) | int flying() | int inject(int)"
            + " | int line(int, int, int) | int lose(int) | int media(int, int, int) | int pass(int)"
            + " | int sign(int, int) | int told(int, int) | int twice(int)";
    private static final String[] FORBIDDEN = {"throw", "try", "catch", "synchronized", "assert", "import", "package",
        "->", "::", "native", "Object", "System.currentTimeMillis", "random", "protected", "hashCode", "toString"};
    private static final String LIBRARY = "String Math.max Math.min";
    private static final int LONGEST_METHOD = 60;

    public static void main(String[] args) throws IOException {
        face();
        language();
        Check.finish("FaceTest");
    }

    private static void face() {
        Class<?> face = CallAgents.class;
        Check.due("public and final", Modifier.toString(face.getModifiers()), "public final");
        Set<String> methods = new TreeSet<>();
        for (Method method : face.getDeclaredMethods()) {
            String types = Arrays.toString(method.getParameterTypes()).replaceAll("[\\[\\]]", "");
            if (!Modifier.isPrivate(method.getModifiers())) {
                methods.add(method.getReturnType() + " " + method.getName() + "(" + types + ")");
            } else {
                Check.due(method + " bears no public name", FACE.contains(" " + method.getName() + "("), false);
            }
        }
        Check.due("the methods", String.join(" | ", methods), FACE);
        Set<String> fields = new TreeSet<>();
        for (Field field : face.getDeclaredFields()) {
            if (!Modifier.isPrivate(field.getModifiers())) {
                fields.add(Modifier.toString(field.getModifiers()) + " " + field.getType() + " " + field.getName());
            }
        }
        Check.due("the constants", String.join(" | ", fields), "public static final int BAD | public static final int NONE");
        Constructor<?>[] constructors = face.getDeclaredConstructors();
        Check.due("constructors", constructors.length, 1);
        Check.due("its parameters", constructors[0].getParameterCount(), 0);
        Check.due("some twelve classes", face.getDeclaredClasses().length <= 11, true);
        fields(face);
        for (Class<?> inner : face.getDeclaredClasses()) {
            inner(inner);
        }
    }

    private static void inner(Class<?> inner) {
        Check.due(inner + " is static", Modifier.isStatic(inner.getModifiers()), true);
        Check.due(inner + " is not public", Modifier.isPublic(inner.getModifiers()), false);
        fields(inner);
        for (Method method : inner.getDeclaredMethods()) {
            Check.due(method + " bears no public name", FACE.contains(" " + method.getName() + "("), false);
            Check.due(method + ": at most seven parameters", method.getParameterCount() <= 7, true);
        }
    }

    private static void fields(Class<?> one) {
        int fields = 0;
        for (Field field : one.getDeclaredFields()) {
            boolean fixed = Modifier.isStatic(field.getModifiers());
            fields += fixed ? 0 : 1;
            boolean constant = field.getType() == int.class || field.getType() == String.class;
            Check.due(field + " is a constant, if static", !fixed || Modifier.isFinal(field.getModifiers()) && constant, true);
        }
        Check.due(one + ": some twenty fields", fields <= 20, true);
    }

    private static void language() throws IOException {
        String source = Files.readString(Path.of("src/main/java/CallAgents.java"));
        String code = source.replaceAll("(?s)/\\*.*?\\*/", "").replaceAll("//.*", "").replaceAll("\"[^\"]*\"", "\"\"");
        for (String word : FORBIDDEN) {
            Matcher found = Pattern.compile("(?<!\\w)" + Pattern.quote(word) + "(?!\\w)").matcher(code);
            Check.due("the source has " + word, found.find(), false);
        }
        Check.due("texts hold signs 0 to 255", source.chars().allMatch(sign -> sign < 256), true);
        library(code);
        methodsAreShort(source);
    }

    /** Each name with a capital and small letters is a class of the file's own or one of the library's few. */
    private static void library(String code) {
        Set<String> own = new TreeSet<>(Set.of("CallAgents"));
        for (Class<?> inner : CallAgents.class.getDeclaredClasses()) {
            own.add(inner.getSimpleName());
        }
        Matcher name = Pattern.compile("(?<![\\w.])([A-Z]\\w*[a-z]\\w*)(\\.[a-z]\\w*)?").matcher(code);
        while (name.find()) {
            boolean listed = own.contains(name.group(1)) || (" " + LIBRARY + " ").contains(" " + name.group() + " ");
            Check.due("LANGUAGE.md has " + name.group(), listed, true);
        }
    }

    private static void methodsAreShort(String source) {
        Matcher method = Pattern.compile("(?ms)^( {4}| {8})(?!static final class)\\S[^\\n;=]*\\) \\{\\n.*?^\\1\\}$").matcher(source);
        int methods = 0;
        while (method.find()) {
            methods++;
            String first = method.group().substring(0, method.group().indexOf('\n')).trim();
            Check.due(first + " is short", method.group().lines().count() <= LONGEST_METHOD, true);
        }
        Check.due("methods were found", methods > 50, true);
    }
}
