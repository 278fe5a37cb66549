import java.nio.file.Files;
import java.nio.file.Path;
import java.util.regex.Matcher;
import java.util.regex.Pattern;

/** The calls that README.md shows, line by line on one object, answer what stands behind them there. */
public final class ReadmeTest {
    private static final Pattern CALL = Pattern.compile("x\\.(\\w+\\([-\\d, ]*\\)); +// (-?\\d+|[A-Z]+)\\b.*");
    private static final Pattern TEXT = Pattern.compile("for \\(char letter : \"(.*)\"\\.toCharArray\\(\\)\\) \\{");
    private static final int LEAST_CALLS = 30;
    private static final Due due = new Due("ReadmeTest");

    public static void main(String[] args) throws Exception {
        Told told = new Told(due);
        int calls = 0;
        for (String line : Files.readAllLines(Path.of(args[1]))) {
            due.promise(line);
            Matcher call = CALL.matcher(line);
            Matcher text = TEXT.matcher(line);
            if (text.matches()) {
                told.writes(text.group(1));
            } else if (call.matches()) {
                told.calls(call.group(1).replace(" ", "") + "=" + call.group(2));
                calls++;
            } else {
                due.holds("a call with its answer", !line.startsWith("x."));
            }
        }
        due.holds(calls + " calls", calls >= LEAST_CALLS);
        due.end();
    }
}
