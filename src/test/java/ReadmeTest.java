import java.io.File;
import java.io.IOException;
import java.lang.reflect.Method;
import java.lang.reflect.Modifier;
import java.nio.file.Files;
import java.nio.file.Path;
import java.util.HashMap;
import java.util.List;
import java.util.Map;
import java.util.regex.Matcher;
import java.util.regex.Pattern;

/** README.md says how to use the class, with answers that are true, and how to run its tests. */
public final class ReadmeTest {
    private static final Path README = Path.of("README.md");
    private static final File TESTS = new File("src/test/java");
    private static final Pattern CALL =
            Pattern.compile("(?:int (\\w+) = )?melds\\.(\\w+)\\((.*?)\\);\\s+// (-?\\w+).*");

    public static void main(String[] args) throws IOException, ReflectiveOperationException {
        List<String> lines = Files.readAllLines(README);
        example(lines.subList(lines.indexOf("```java") + 1, lines.indexOf("```")));
        everyCallIsTold(lines);
        everyTestIsTold(lines);
        Due.end();
    }

    private static void example(List<String> lines) throws ReflectiveOperationException {
        Due.holds("the example makes an object", lines.get(0).equals("SkewMelds melds = new SkewMelds();"));
        SkewMelds melds = new SkewMelds();
        Map<String, Integer> named = new HashMap<>();
        for (String line : lines.subList(1, lines.size())) {
            Matcher call = CALL.matcher(line);
            boolean isCall = call.matches();
            Due.holds("a call with its answer: " + line, isCall);
            if (isCall) {
                String answer = answer(melds, call.group(2), call.group(3), named);
                Due.holds(line + " answered " + answer, answer.equals(call.group(4)));
                if (call.group(1) != null) {
                    named.put(call.group(1), Integer.valueOf(answer));
                }
            }
        }
    }

    private static String answer(SkewMelds melds, String name, String written, Map<String, Integer> named)
            throws ReflectiveOperationException {
        String[] words = written.isEmpty() ? new String[0] : written.split(", ");
        Object[] values = new Object[words.length];
        Class<?>[] types = new Class<?>[words.length];
        for (int i = 0; i < words.length; i++) {
            values[i] = named.containsKey(words[i]) ? named.get(words[i]) : Integer.valueOf(words[i]);
            types[i] = int.class;
        }
        return SkewMelds.class.getMethod(name, types).invoke(melds, values).toString();
    }

    private static boolean oneBegins(List<String> lines, String words) {
        return lines.stream().anyMatch(line -> line.startsWith(words));
    }

    private static void everyCallIsTold(List<String> lines) {
        for (Method method : SkewMelds.class.getDeclaredMethods()) {
            if (Modifier.isPublic(method.getModifiers())) {
                String words = "| `" + method.getReturnType() + " " + method.getName() + "(";
                Due.holds("README.md has a row that begins " + words, oneBegins(lines, words));
                Due.holds("the example calls " + method.getName(), lines.stream()
                        .anyMatch(line -> line.contains("melds." + method.getName() + "(")));
            }
        }
    }

    private static void everyTestIsTold(List<String> lines) {
        Due.holds("README.md tells of .ci/run", lines.contains("    .ci/run"));
        String[] tests = TESTS.list((directory, name) -> name.endsWith("Test.java"));
        for (String test : tests) {
            String words = "- `" + test.replace(".java", "") + "`: ";
            Due.holds("README.md has a line that begins " + words, oneBegins(lines, words));
        }
    }
}
