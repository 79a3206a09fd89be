import java.io.IOException;
import java.lang.reflect.Method;
import java.nio.file.Files;
import java.nio.file.Path;
import java.util.ArrayList;
import java.util.List;
import java.util.regex.Matcher;
import java.util.regex.Pattern;

/** The example in README.md answers what stands there behind each call. It runs in the project's folder. */
public final class GuestKeeperReadme extends Check {
    private static final String NEW_OBJECT = "GuestKeeper x = new GuestKeeper();";
    private static final Pattern CALL = Pattern.compile("x\\.(\\w+)\\(([-\\d, ]*)\\); +// ([-\\w]+): .+");

    private GuestKeeperReadme() {
    }

    public static void main(String[] args) throws Exception {
        says("README.md");
        List<String> example = example();
        due("its first line makes an object", example.get(0).equals(NEW_OBJECT), true);
        GuestKeeper x = new GuestKeeper();
        for (String line : example.subList(1, example.size())) {
            Matcher call = CALL.matcher(line);
            due("a call with its answer: " + line, call.matches(), true);
            if (call.matches()) {
                due(line, answerOf(x, call.group(1), call.group(2)), number(call.group(3)));
            }
        }
        end();
    }

    /** The lines between ```java and the ``` that follows; an empty line if there are none. */
    private static List<String> example() throws IOException {
        List<String> found = new ArrayList<>();
        boolean inside = false;
        for (String line : Files.readAllLines(Path.of("README.md"))) {
            if (inside && line.equals("```")) {
                return found;
            }
            if (inside) {
                found.add(line);
            }
            inside = inside || line.equals("```java");
        }
        return List.of("");
    }

    private static long answerOf(GuestKeeper x, String name, String arguments) throws Exception {
        List<Object> values = new ArrayList<>();
        for (String argument : arguments.split(", ")) {
            if (!argument.isEmpty()) {
                values.add(Integer.parseInt(argument));
            }
        }
        for (Method m : GuestKeeper.class.getMethods()) {
            if (m.getName().equals(name)) {
                return number(m.invoke(x, values.toArray()).toString());
            }
        }
        throw new IllegalArgumentException("no call of the class: " + name);
    }

    private static long number(String answer) {
        switch (answer) {
            case "NOTHING":
                return NOTHING;
            case "true":
                return 1;
            case "false":
                return 0;
            default:
                return Long.parseLong(answer);
        }
    }
}
