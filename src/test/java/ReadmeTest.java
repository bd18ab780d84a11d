import java.io.IOException;
import java.lang.reflect.Method;
import java.lang.reflect.Modifier;
import java.nio.file.Files;
import java.nio.file.Path;
import java.util.Arrays;
import java.util.List;
import java.util.regex.Matcher;
import java.util.regex.Pattern;

/** README.md tells every call, and each line of its example answers what stands behind it. */
public final class ReadmeTest {
    private static final String NEW_OBJECT = "RealBits x = new RealBits();";
    private static final Pattern CALL = Pattern.compile("x\\.(\\w+)\\((.*)\\); +// ([-\\w]+)(: .*)?");

    private static final Checks checks = new Checks();

    public static void main(String[] args) throws IOException {
        String readme = Files.readString(Path.of("README.md"));
        for (Method method : RealBits.class.getDeclaredMethods()) {
            if (Modifier.isPublic(method.getModifiers())) {
                String name = "`" + method.getName() + "(";
                checks.due(name + " is told", readme.contains(name), true);
            }
        }
        for (String way : new String[] {".ci/run", "src/main/java/RealBits.java", "../shared/DOC.md"}) {
            checks.due(way + " is told", readme.contains(way), true);
        }
        runExample(exampleOf(readme));
        checks.end("ReadmeTest");
    }

    private static List<String> exampleOf(String readme) {
        List<String> lines = readme.lines().toList();
        int start = lines.indexOf("```java");
        List<String> behind = lines.subList(start + 1, lines.size());
        return behind.subList(0, behind.indexOf("```"));
    }

    private static void runExample(List<String> example) {
        checks.due("the example begins with a new object", example.get(0).equals(NEW_OBJECT), true);
        RealBits x = new RealBits();
        for (String line : example.subList(1, example.size())) {
            Matcher call = CALL.matcher(line);
            boolean isCall = call.matches();
            checks.due("\"" + line + "\" is a call with its answer", isCall, true);
            if (isCall) {
                checks.due("README.md: " + line, answer(x, call.group(1), numbers(call.group(2))),
                    number(call.group(3)));
            }
        }
    }

    private static int answer(RealBits x, String name, int[] operands) {
        switch (name) {
            case "round": return x.round(operands[0]) ? 1 : 0;
            case "mode": return x.mode();
            case "flags": return x.flags();
            case "clear": return x.clear();
            default: return Checks.call(x, name, operands);
        }
    }

    private static int[] numbers(String text) {
        String[] parts = text.isEmpty() ? new String[0] : text.split(", ");
        return Arrays.stream(parts).mapToInt(ReadmeTest::number).toArray();
    }

    private static int number(String text) {
        switch (text) {
            case "true": return 1;
            case "false": return 0;
            default: return Long.decode(text).intValue();
        }
    }
}
