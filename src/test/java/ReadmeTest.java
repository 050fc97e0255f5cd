import java.io.IOException;
import java.nio.file.Files;
import java.nio.file.Path;
import java.util.Set;
import java.util.TreeSet;
import java.util.regex.Matcher;
import java.util.regex.Pattern;

/** The example of README.md: each call there answers what is written behind it. */
public final class ReadmeTest {
    private static final String OBJECT = "kernel.";
    private static final Pattern ROW =
            Pattern.compile("kernel\\.((\\w+)\\([^)]*\\)); +// (?:throws )?([\\w-]+): .*");

    public static void main(String[] args) throws IOException {
        Run run = Run.of("README.md");
        Set<String> called = new TreeSet<>();
        for (String line : Files.readAllLines(Path.of("README.md"))) {
            Matcher row = ROW.matcher(line);
            if (row.matches()) {
                run.then(row.group(1) + " = " + due(row.group(3)));
                called.add(row.group(2));
            } else {
                Check.same("a row that tells no answer: " + line, line.startsWith(OBJECT) ? 1 : 0, 0);
            }
        }
        run.end();
        Check.same("calls of the example", called.toString(),
                "[about, add, assign, changed, count, ended, release, remove, response, run, tick, trace, witness]");
        Check.end();
    }

    private static String due(String text) {
        switch (text) {
            case "NoSuchElementException": return "NSE";
            case "IllegalArgumentException": return "IAE";
            case "IllegalStateException": return "ISE";
            default: return text;
        }
    }
}
