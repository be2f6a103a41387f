import java.io.IOException;
import java.lang.reflect.Method;
import java.nio.file.Files;
import java.nio.file.Path;
import java.util.List;
import java.util.regex.Matcher;
import java.util.regex.Pattern;

/**
 * README.md has every member of the face, which FaceTest holds to the document's, and the calls of its example
 * answer what it says.
 */
final class ReadmeTest {
    private static final Pattern FACE = Pattern.compile("    public (.*\\)) \\{");
    private static final Pattern CALL = Pattern.compile("flow\\.(\\w+)\\((.*)\\); +// (\\S+): .+");

    public static void main(String[] args) throws IOException, ReflectiveOperationException {
        List<String> readme = Files.readAllLines(Path.of("README.md"));
        everyMemberHasAPlace(readme, Files.readAllLines(Path.of("src/main/java/PartsFlow.java")));
        theExampleAnswersSo(readme);
        Due.end();
    }

    private static void everyMemberHasAPlace(List<String> readme, List<String> source) {
        int members = 0;
        for (String line : source) {
            Matcher member = FACE.matcher(line);
            if (member.matches()) {
                members++;
                String heading = "### `" + member.group(1) + "`";
                Due.same(heading + " in README.md", readme.contains(heading), true);
            }
        }
        Due.same("members of the face", members, 10);
    }

    private static void theExampleAnswersSo(List<String> readme) throws ReflectiveOperationException {
        PartsFlow flow = new PartsFlow();
        int calls = 0;
        for (String line : readme) {
            Matcher call = CALL.matcher(line);
            if (call.matches()) {
                calls++;
                String got = String.valueOf(answer(flow, call.group(1), call.group(2)));
                Due.same(line + " answered " + got, got.equals(call.group(3)), true);
            } else {
                Due.same(line + " has a form of its own", line.startsWith("flow."), false);
            }
        }
        Due.same("README.md has an example", calls > 0, true);
    }

    private static Object answer(PartsFlow flow, String name, String given) throws ReflectiveOperationException {
        String[] texts = given.isEmpty() ? new String[0] : given.split(", ");
        for (Method method : PartsFlow.class.getMethods()) {
            if (method.getName().equals(name) && method.getParameterCount() == texts.length) {
                Object[] arguments = new Object[texts.length];
                for (int i = 0; i < texts.length; i++) {
                    arguments[i] = value(method.getParameterTypes()[i], texts[i]);
                }
                return method.invoke(flow, arguments);
            }
        }
        return "no such method";
    }

    private static Object value(Class<?> type, String text) {
        if (type == boolean.class) {
            return Boolean.valueOf(text);
        }
        return Integer.valueOf(text);
    }
}
