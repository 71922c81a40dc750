import java.nio.charset.StandardCharsets;
import java.nio.file.Files;
import java.nio.file.Path;
import java.util.regex.Matcher;
import java.util.regex.Pattern;

/** The example of README.md: each call in it answers what its comment begins with. */
public final class ReadmeTest {
    private static final Pattern CALL = Pattern.compile("works\\.(\\w+\\([^)]*\\)); +// (-?\\d+|true|false)\\b.*");
    private static final int LEAST_CALLS = 10;

    public static void main(String[] args) throws Exception {
        Works works = new Works("README.md");
        int calls = 0;
        for (String line : Files.readAllLines(Path.of("README.md"), StandardCharsets.UTF_8)) {
            if (line.startsWith("works.")) {
                Matcher call = CALL.matcher(line);
                if (!call.matches()) {
                    fail("no call with its answer: " + line);
                    return;
                }
                works.due(call.group(1), number(call.group(2)));
                calls++;
            }
        }
        if (calls < LEAST_CALLS) {
            fail("README.md has no example");
        }
        Works.end("the example of README.md holds");
    }

    private static long number(String answer) {
        if (answer.equals("true") || answer.equals("false")) {
            return answer.equals("true") ? 1 : 0;
        }
        return Long.parseLong(answer);
    }

    private static void fail(String text) {
        System.out.println(text);
        System.exit(1);
    }
}
