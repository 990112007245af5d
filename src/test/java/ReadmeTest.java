import java.io.IOException;
import java.nio.file.Files;
import java.nio.file.Path;
import java.util.regex.Matcher;
import java.util.regex.Pattern;

/** What README.md shows: each call there, one behind the other on one object, and the answer that stands behind it. */
public final class ReadmeTest {
    private static final Pattern SHOWN = Pattern.compile("x\\.(\\w+\\([^)]*\\)); +// (-?\\d+): .*");
    private static final int SHOWN_AT_LEAST = 10;

    public static void main(String[] args) throws IOException {
        AnyTwoBells x = new AnyTwoBells();
        int passed = 0;
        int failed = 0;
        for (String line : Files.readAllLines(Path.of("README.md"))) {
            Matcher shown = SHOWN.matcher(line);
            if (shown.matches()) {
                Run.Step step = Run.of(shown.group(1)).steps.get(0);
                long got = Calls.ask(x, step.call, step.with);
                if (got == Long.parseLong(shown.group(2))) {
                    passed++;
                } else {
                    failed++;
                    System.out.println(line + " answered " + got);
                }
            } else if (line.startsWith("x.")) {
                failed++;
                System.out.println(line + " tells no answer");
            }
        }
        System.out.println(passed + " passed, " + failed + " failed");
        if (failed != 0 || passed < SHOWN_AT_LEAST) {
            System.exit(1);
        }
    }
}
