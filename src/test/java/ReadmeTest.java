import java.io.IOException;
import java.lang.reflect.Method;
import java.lang.reflect.Modifier;
import java.nio.file.Files;
import java.nio.file.Path;
import java.util.Set;
import java.util.TreeSet;
import java.util.regex.Matcher;
import java.util.regex.Pattern;

/** The examples of README.md, as one run of calls, answer what stands behind them, and leave no method out. */
public final class ReadmeTest extends DeskTest {
    private static final Pattern CALL = Pattern.compile("desk\\.(\\w+)\\(([^)]*)\\);");
    private static final Pattern ANSWER = Pattern.compile("// ([^:\\s]+)");

    private final Set<String> shown = new TreeSet<>();

    private ReadmeTest() {
        super("ReadmeTest");
    }

    public static void main(String[] args) throws IOException {
        ReadmeTest test = new ReadmeTest();
        test.begin("README.md");
        for (String line : Files.readAllLines(Path.of("README.md"))) {
            test.askLine(line);
        }
        test.same("the methods shown", test.shown, publicMethods());
        test.done();
    }

    private void askLine(String line) {
        Matcher call = CALL.matcher(line);
        Matcher answer = ANSWER.matcher(line);
        String due = answer.find() ? answer.group(1).replace("NONE", "-1") : "an answer in the line";
        while (call.find()) {
            shown.add(call.group(1));
            due(due, call.group(1), numbers(call.group(2)));
        }
    }

    private static int[] numbers(String list) {
        if (list.isEmpty()) {
            return new int[0];
        }
        String[] parts = list.split(", ");
        int[] numbers = new int[parts.length];
        for (int i = 0; i < parts.length; i++) {
            numbers[i] = Integer.parseInt(parts[i]);
        }
        return numbers;
    }

    private static Set<String> publicMethods() {
        Set<String> names = new TreeSet<>();
        for (Method method : RungTouches.class.getDeclaredMethods()) {
            if (Modifier.isPublic(method.getModifiers())) {
                names.add(method.getName());
            }
        }
        return names;
    }
}
