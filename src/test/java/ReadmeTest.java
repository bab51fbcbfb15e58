import java.io.IOException;
import java.nio.file.Files;
import java.nio.file.Path;
import java.util.HashMap;
import java.util.Map;
import java.util.regex.Matcher;
import java.util.regex.Pattern;

/** Makes the calls that README.md shows and compares what they answer with what it says behind each of them. */
final class ReadmeTest {
    private static final Pattern TYPED = Pattern.compile("type\\(budget, \"(.*)\"\\);");
    private static final Pattern CALL = Pattern.compile("budget\\.(\\w+)\\((.*)\\); +// (\\S+)( \\(.*\\))?");
    private static final int FEWEST_CALLS = 30;

    private static final Map<String, Object> CONSTANTS = new HashMap<>();

    public static void main(String[] args) throws IOException {
        CONSTANTS.put("NONE", (long) Run.NONE);
        CONSTANTS.put("LACK", Run.LACK);
        CONSTANTS.put("NO_VALUE", Run.NO_VALUE);
        Cases.runAll(ReadmeTest.class);
    }

    static void promises_callsOfTheReadme() throws IOException {
        Run budget = new Run();
        int calls = 0;
        for (String line : Files.readAllLines(Path.of("README.md"))) {
            Matcher typed = TYPED.matcher(line);
            Matcher call = CALL.matcher(line);
            if (typed.matches()) {
                budget.type(typed.group(1));
            } else if (call.matches()) {
                String told = call.group(1) + " " + call.group(2).replace(",", "");
                budget.due(told.trim(), answer(call.group(3)));
                calls++;
            } else {
                Cases.right(!line.startsWith("budget."), "no answer is told behind " + line);
            }
        }
        Cases.right(calls >= FEWEST_CALLS, "README.md shows " + calls + " calls");
    }

    private static Object answer(String told) {
        return told.matches("-?[0-9]+") ? (Object) Long.valueOf(told) : CONSTANTS.getOrDefault(told, told);
    }
}
