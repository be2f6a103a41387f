import java.io.IOException;
import java.lang.reflect.Array;
import java.lang.reflect.Field;
import java.lang.reflect.Method;
import java.lang.reflect.Modifier;
import java.nio.file.Files;
import java.nio.file.Path;
import java.util.HashSet;
import java.util.Set;
import java.util.regex.Matcher;
import java.util.regex.Pattern;

/** The rules of ../shared/LANGUAGE.md that can be seen from the class and from its text. */
final class LanguageTest {
    private static final String SOURCE = "src/main/java/PartsFlow.java";
    // What the rules leave out, and exceptions, which they leave to the document: it names none.
    private static final Pattern LEFT_OUT = Pattern.compile(
        "\\b(package|throw|throws|try|catch|finally|synchronized|assert|native|Object|Thread|Random|Scanner|Runtime"
        + "|System\\.(?!arraycopy\\b)\\w+|\\w+Exact)\\b|->|::");

    public static void main(String[] args) throws IOException, ReflectiveOperationException {
        noMethodTwice();
        staticFieldsAreConstants();
        fewFieldsAndParameters();
        nothingThatIsLeftOut();
        smallMethods();
        rowsAreMadeOnceAlone();
        Due.end();
    }

    /** Rule 1: "No private method bears the name of a public one." */
    private static void noMethodTwice() {
        Set<String> names = new HashSet<>();
        for (Method method : PartsFlow.class.getDeclaredMethods()) {
            Due.same(method.getName() + " is the only one of its name", names.add(method.getName()), true);
        }
    }

    /** Rule 5: "Static fields are final: constants of int, long, boolean, char or String". */
    private static void staticFieldsAreConstants() {
        for (Field field : PartsFlow.class.getDeclaredFields()) {
            if (Modifier.isStatic(field.getModifiers())) {
                Due.same(field.getName() + " is final", Modifier.isFinal(field.getModifiers()), true);
                Due.same(field.getName() + " is an int", field.getType() == int.class, true);
            }
        }
    }

    /** Rule 11: "at most seven parameters", "some twenty fields beside its constants". */
    private static void fewFieldsAndParameters() {
        int fields = 0;
        for (Field field : PartsFlow.class.getDeclaredFields()) {
            fields += Modifier.isStatic(field.getModifiers()) ? 0 : 1;
        }
        Due.same(fields + " fields are at most 20", fields <= 20, true);
        for (Method method : PartsFlow.class.getDeclaredMethods()) {
            Due.same(method + " has at most seven parameters", method.getParameterCount() <= 7, true);
        }
        Due.same("classes inside", PartsFlow.class.getDeclaredClasses().length, 0);
    }

    /** Rules 2, 4, 6 and 13, and the package line. */
    private static void nothingThatIsLeftOut() throws IOException {
        for (String line : Files.readAllLines(Path.of(SOURCE))) {
            String code = line.replaceFirst("//.*|^/\\*\\*.*\\*/$", "");
            Matcher found = LEFT_OUT.matcher(code);
            Due.same("left out by the rules: " + line, found.find(), false);
        }
    }

    /** Rule 11: "Methods stay short (some sixty lines)": from a line with a member's opening to its closing one. */
    private static void smallMethods() throws IOException {
        int lines = 0;
        for (String line : Files.readAllLines(Path.of(SOURCE))) {
            lines = line.matches(" {4}\\S.*\\{") ? 0 : lines + 1;
            Due.same("no method goes over sixty lines: " + line, line.equals("    }") && lines > 60, false);
        }
    }

    /** Rule 12, and the one room of a run: calls leave every row in its place, and the rows are few and short. */
    private static void rowsAreMadeOnceAlone() throws IOException, ReflectiveOperationException {
        int elements = 0;
        for (Field field : PartsFlow.class.getDeclaredFields()) {
            if (field.getType().isArray()) {
                Due.same(field.getName() + " is final", Modifier.isFinal(field.getModifiers()), true);
                field.setAccessible(true);
                elements += Array.getLength(field.get(new PartsFlow()));
            }
        }
        Due.same(elements + " elements are at most 2000", elements <= 2000, true);
        String text = Files.readString(Path.of(SOURCE));
        int begin = text.indexOf("    public PartsFlow() {");
        int end = text.indexOf("    public int variable(");
        Due.same("every 'new' is in the constructor", timesNew(text), timesNew(text.substring(begin, end)));
    }

    private static int timesNew(String text) {
        return text.split("\\bnew\\b", -1).length - 1;
    }
}
