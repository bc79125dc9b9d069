import java.lang.reflect.Method;
import java.nio.file.Files;
import java.nio.file.Path;
import java.util.Arrays;
import java.util.regex.Matcher;
import java.util.regex.Pattern;

/** README.md's calls answer what stands behind them. Run in the project's folder. */
public final class ReadmeTest {
    private static final Pattern CALL = Pattern.compile("x\\.(\\w+)\\(([^()]*)\\); +// (-?[0-9]+)(?:: .*)?");
    private static final Pattern FEED = Pattern.compile("for \\(char letter : \"([^\"]*)\"\\.toCharArray\\(\\)\\) \\{");

    private ReadmeTest() {
    }

    private static long ask(YarnPlier x, String name, String told) throws ReflectiveOperationException {
        Object[] numbers = told.isEmpty() ? new Object[0] : Arrays.stream(told.split(", ")).map(Integer::valueOf).toArray();
        Class<?>[] ints = new Class<?>[numbers.length];
        Arrays.fill(ints, int.class);
        Method call = YarnPlier.class.getMethod(name, ints);
        return ((Number) call.invoke(x, numbers)).longValue();
    }

    public static void main(String[] args) throws Exception {
        Due due = new Due();
        YarnPlier x = new YarnPlier();
        int calls = 0;
        int rows = 0;
        for (String line : Files.readAllLines(Path.of("README.md"))) {
            Matcher call = CALL.matcher(line);
            Matcher feed = FEED.matcher(line);
            rows += line.startsWith("x.") ? 1 : 0;
            if (call.matches()) {
                calls++;
                due.is("README.md: x." + call.group(1) + "(" + call.group(2) + ")", ask(x, call.group(1), call.group(2)), Long.parseLong(call.group(3)));
            } else if (feed.matches()) {
                Scenes.feed(x, feed.group(1));
            }
        }
        due.is("calls of README.md that tell their answer", calls, rows);
        due.holds("there are some", calls > 20);
        due.end();
    }
}
