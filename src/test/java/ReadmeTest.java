import java.io.IOException;
import java.nio.file.Files;
import java.nio.file.Path;
import java.util.regex.Matcher;
import java.util.regex.Pattern;

/** The calls that README.md shows, in their order, each with the answer that stands behind it. */
public final class ReadmeTest {
    private static final Check check = new Check();
    private static final Pattern CALL = Pattern.compile("x\\.(\\w+\\(.*?\\)); +// (-?\\d+):.*");
    private static final Pattern TEXT = Pattern.compile("for \\(char sign : \"(.*)\"\\.toCharArray\\(\\)\\) \\{");
    private static final Pattern SIGN = Pattern.compile("feed\\('(.)'\\)");

    public static void main(String[] args) throws IOException {
        String readme = Files.readString(Path.of("README.md"));
        String[] lines = readme.split("```java\n")[1].split("```")[0].split("\n");
        BirthTenth x = new BirthTenth();
        int calls = 0;
        for (String line : lines) {
            Matcher text = TEXT.matcher(line);
            Matcher call = CALL.matcher(line);
            if (text.matches()) {
                Calls.ask(x, "text(" + text.group(1) + ")");
            } else if (call.matches()) {
                Matcher sign = SIGN.matcher(call.group(1));
                String asked = sign.matches() ? "feed(" + (int) sign.group(1).charAt(0) + ")" : call.group(1);
                check.due("README " + line.trim(), Calls.ask(x, asked), Long.parseLong(call.group(2)));
                calls++;
            }
        }
        check.due("README: calls of its lines", calls, lines.length - 4);
        check.end();
    }
}
