import java.io.IOException;
import java.lang.reflect.Method;
import java.lang.reflect.Modifier;
import java.nio.file.Files;
import java.nio.file.Path;
import java.util.ArrayList;
import java.util.List;
import java.util.regex.Matcher;
import java.util.regex.Pattern;

/** Every example of README.md answers as README.md says, and every call of the face stands there. */
public final class ReadmeTest {
    private static final String NEW = "DrawingVault vault = new DrawingVault();";
    private static final Pattern CALL = Pattern.compile("vault\\.(\\w+\\(.*\\)); +// ([^:]+)(: .+)?");
    private static final int MOST_CALLS = 512;

    public static void main(String[] args) throws IOException {
        List<String> lines = Files.readAllLines(Path.of("README.md"));
        List<List<String>> examples = examplesOf(lines);
        Checks.test("README.md");
        Checks.due("there are examples", examples.isEmpty(), false);
        for (List<String> example : examples) {
            run(example);
        }
        everyCallStandsIn(String.join("\n", lines));
        everyCallIsShownIn(examples);
        Checks.end();
    }

    private static List<List<String>> examplesOf(List<String> lines) {
        List<List<String>> examples = new ArrayList<>();
        List<String> example = null;
        for (String line : lines) {
            if (line.equals("```java")) {
                example = new ArrayList<>();
                examples.add(example);
            } else if (line.equals("```")) {
                example = null;
            } else if (example != null) {
                example.add(line);
            }
        }
        return examples;
    }

    private static void run(List<String> example) {
        Checks.due("an example begins with " + NEW, example.get(0).equals(NEW), true);
        Checks.due("an example has at most 512 calls", example.size() - 1 > MOST_CALLS, false);
        DrawingVault vault = new DrawingVault();
        for (String line : example.subList(1, example.size())) {
            Matcher call = CALL.matcher(line);
            Checks.due("'" + line + "' is a call with its answer", call.matches(), true);
            if (call.matches()) {
                // The page's own Java names the class, the tests' calls as text do not.
                String text = call.group(1).replace("DrawingVault.NONE", "NONE");
                Checks.due(line, new Call(text).on(vault), answerOf(call.group(1), call.group(2)));
            }
        }
    }

    /** A boolean call's answer is true or false, so that a wrong word does not pass as 1 or 0. */
    private static int answerOf(String call, String answer) {
        switch (answer) {
            case "true":
            case "false":
                Checks.due(call + " is a boolean call", isBoolean(call), true);
                return answer.equals("true") ? 1 : 0;
            case "NONE":
                return DrawingVault.NONE;
            case "throws IllegalStateException":
                return Checks.STATE;
            case "throws IndexOutOfBoundsException":
                return Checks.INDEX;
            default:
                Checks.due(call + " is a boolean call", isBoolean(call), false);
                return Integer.parseInt(answer);
        }
    }

    private static boolean isBoolean(String call) {
        for (Method m : face()) {
            if (call.startsWith(m.getName() + "(")) {
                return m.getReturnType() == boolean.class;
            }
        }
        return false;
    }

    private static void everyCallStandsIn(String page) {
        for (Method m : face()) {
            StringBuilder call = new StringBuilder("`" + m.getName() + "\\(");
            for (int i = 0; i < m.getParameterCount(); i++) {
                call.append(i == 0 ? "" : ", ").append("[a-z]\\w*");
            }
            call.append("\\)`");
            Checks.due(m.getName() + "() stands in it with its arguments",
                Pattern.compile(call.toString()).matcher(page).find(), true);
        }
    }

    private static void everyCallIsShownIn(List<List<String>> examples) {
        for (Method m : face()) {
            boolean shown = false;
            for (List<String> example : examples) {
                for (String line : example) {
                    shown |= line.startsWith("vault." + m.getName() + "(");
                }
            }
            Checks.due(m.getName() + "() is shown in an example", shown, true);
        }
    }

    private static List<Method> face() {
        List<Method> face = new ArrayList<>();
        for (Method m : DrawingVault.class.getDeclaredMethods()) {
            if (Modifier.isPublic(m.getModifiers())) {
                face.add(m);
            }
        }
        return face;
    }
}
