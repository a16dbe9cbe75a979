import java.io.IOException;
import java.lang.reflect.Method;
import java.lang.reflect.Modifier;
import java.nio.charset.StandardCharsets;
import java.nio.file.Files;
import java.nio.file.Path;
import java.util.regex.Matcher;
import java.util.regex.Pattern;

/** What README.md tells of the use of the class is so. */
public final class ReadmeTest {
    private static final Path README = Path.of("README.md");
    private static final Pattern EXAMPLE = Pattern.compile("(?s)```java\n(.*?)```");
    private static final Pattern CALL = Pattern.compile("x\\.(\\w+)\\((.*)\\); +// (-?\\w+):.*");
    private static final Pattern TEXT = Pattern.compile("for \\(char c : \"(.*)\"\\.toCharArray\\(\\)\\) \\{");

    private final Checks checks = new Checks();

    public static void main(String[] args) throws IOException {
        String readme = Files.readString(README, StandardCharsets.UTF_8);
        ReadmeTest test = new ReadmeTest();
        test.example(readme);
        test.namesEachCall(readme);
        test.checks.end("ReadmeTest");
    }

    /** Each call of the example answers what is told behind it. */
    private void example(String readme) {
        Matcher example = EXAMPLE.matcher(readme);
        checks.holds("an example stands in README.md", example.find());
        Routes routes = new Routes();
        int answers = 0;
        for (String line : example.group(1).split("\n")) {
            Matcher call = CALL.matcher(line);
            Matcher text = TEXT.matcher(line);
            if (call.matches()) {
                String words = call.group(1) + " " + call.group(2).replace(",", " ");
                checks.due("README.md: " + line, routes.ask(words), Routes.number(call.group(3)));
                answers++;
            } else if (text.matches()) {
                routes.tell(text.group(1));
            }
        }
        checks.due("answers told in the example", answers, 10);
    }

    private void namesEachCall(String readme) {
        for (Method m : StickyRoutes.class.getDeclaredMethods()) {
            if (Modifier.isPublic(m.getModifiers())) {
                checks.holds("README.md names " + m.getName(), readme.contains("`" + m.getName() + "`"));
            }
        }
    }
}
