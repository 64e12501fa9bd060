import java.io.IOException;
import java.lang.reflect.Method;
import java.lang.reflect.Modifier;
import java.nio.file.Files;
import java.nio.file.Path;
import java.util.List;
import java.util.regex.Matcher;
import java.util.regex.Pattern;

/** README.md: each call of its examples has the answer that stands behind it, and no call is missing. */
public final class ReadmeTest {
    private static final Path README = Path.of("README.md");
    private static final String NEW_OBJECT = "ShellMoney money = new ShellMoney();";
    private static final Pattern EXAMPLE = Pattern.compile("money\\.(\\w+\\(.*?\\)); +// ([-\\w]+)(:.*)?");

    public static void main(String[] args) throws IOException {
        Check check = new Check();
        List<String> lines = Files.readAllLines(README);
        playExamples(check, lines);
        checkTable(check, lines);
        check.close();
    }

    private static void playExamples(Check check, List<String> lines) {
        Run run = null;
        int played = 0;
        for (String line : lines) {
            Matcher example = EXAMPLE.matcher(line);
            if (line.equals(NEW_OBJECT)) {
                run = new Run(check, "README.md");
            } else if (line.startsWith("money.")) {
                check.due("README.md: reads as a call with its answer: " + line, example.matches(), true);
                run.rows(example.group(1) + " = " + example.group(2));
                played++;
            }
        }
        check.due("README.md: has examples", played > 0, true);
    }

    private static void checkTable(Check check, List<String> lines) {
        for (Method m : ShellMoney.class.getDeclaredMethods()) {
            if (!Modifier.isPublic(m.getModifiers())) {
                continue;
            }
            long rows = lines.stream().filter(line -> line.startsWith("| `" + m.getName() + "(")).count();
            check.due("README.md: rows of the table for " + m.getName(), (int) rows, 1);
        }
    }
}
