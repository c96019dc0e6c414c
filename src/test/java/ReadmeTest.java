import java.io.IOException;
import java.lang.reflect.Method;
import java.lang.reflect.Modifier;
import java.nio.file.Files;
import java.nio.file.Path;
import java.util.Arrays;
import java.util.regex.Matcher;
import java.util.regex.Pattern;

/** README.md says how to use the class: its example answers as it says, and no call of the face is left out. */
final class ReadmeTest {
    private static final Pattern CALL = Pattern.compile("x\\.(\\w+)\\(([\\d, ]*)\\); +// (-?\\d+|true|false): ");

    public static void main(String[] args) throws ReflectiveOperationException, IOException {
        String page = Files.readString(Path.of("README.md"));
        String example = page.substring(page.indexOf("CallAgents x = new CallAgents();"), page.indexOf("### Every call"));
        runExample(example);
        for (Method method : CallAgents.class.getDeclaredMethods()) {
            if (Modifier.isPublic(method.getModifiers())) {
                has(page, "| `" + method.getReturnType() + " " + method.getName() + "(");
                has(example, "x." + method.getName() + "(");
            }
        }
        has(page, "`CallAgents()`");
        has(page, "`BAD` (" + CallAgents.BAD + ")");
        has(page, "`NONE` (" + CallAgents.NONE + ")");
        has(page, "at most 512 calls after it has been made");
        has(page, "bash .ci/run");
        eachTestIsNamed(page);
        Check.finish("ReadmeTest");
    }

    private static void has(String page, String words) {
        Check.due("README.md has " + words, page.contains(words), true);
    }

    private static void runExample(String example) throws ReflectiveOperationException {
        CallAgents x = new CallAgents();
        Matcher call = CALL.matcher(example);
        int calls = 0;
        while (call.find()) {
            calls++;
            Integer[] values = Arrays.stream(call.group(2).split(", ")).filter(word -> !word.isEmpty())
                    .map(Integer::valueOf).toArray(Integer[]::new);
            Class<?>[] types = new Class<?>[values.length];
            Arrays.fill(types, int.class);
            Object answer = CallAgents.class.getMethod(call.group(1), types).invoke(x, (Object[]) values);
            Check.due(call.group(), String.valueOf(answer), call.group(3));
        }
        Check.due("calls of the example with an answer", calls, example.split("\nx\\.", -1).length - 1);
    }

    private static void eachTestIsNamed(String page) throws IOException {
        try (var files = Files.list(Path.of("src/test/java"))) {
            files.map(file -> file.getFileName().toString().replace(".java", "")).forEach(name -> has(page, "`" + name + "`"));
        }
    }
}
