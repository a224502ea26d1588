import java.lang.reflect.Method;
import java.nio.charset.StandardCharsets;
import java.nio.file.Files;
import java.nio.file.Path;
import java.util.regex.Matcher;
import java.util.regex.Pattern;

/** Makes the calls that README.md shows, in their order, and holds the answers that it tells against them. */
public final class ReadmeTest {
    private static final Pattern TEXT = Pattern.compile("for \\(char c : \"([^\"]*)\"\\.toCharArray\\(\\)\\)");
    private static final Pattern CALL = Pattern.compile("(?m)^lane\\.(\\w+)\\(([-\\d, ]*)\\); *// (-?\\d+): ");
    private static final int LEAST_CALLS = 9;

    public static void main(String[] args) throws Exception {
        Check c = new Check();
        String readme = Files.readString(Path.of("README.md"), StandardCharsets.UTF_8);
        c.about("README.md");
        MendAnothersBreaking lane = new MendAnothersBreaking();
        Matcher text = TEXT.matcher(readme);
        c.holds("tells a lane", text.find());
        Lanes.letters(lane, text.group(1));
        Matcher call = CALL.matcher(readme);
        int calls = 0;
        while (call.find()) {
            c.due(call.group(), answer(lane, call.group(1), call.group(2)), Long.parseLong(call.group(3)));
            calls++;
        }
        c.holds("shows calls", calls >= LEAST_CALLS);
        c.holds("names .ci/run", readme.contains("\n.ci/run\n") && Files.isExecutable(Path.of(".ci/run")));
        c.end();
    }

    private static long answer(MendAnothersBreaking lane, String name, String told) throws Exception {
        String[] numbers = told.isBlank() ? new String[0] : told.split(", *");
        Object[] arguments = new Object[numbers.length];
        Class<?>[] types = new Class<?>[numbers.length];
        for (int i = 0; i < numbers.length; i++) {
            arguments[i] = Integer.valueOf(numbers[i]);
            types[i] = int.class;
        }
        Method method = MendAnothersBreaking.class.getMethod(name, types);
        return ((Number) method.invoke(lane, arguments)).longValue();
    }
}
