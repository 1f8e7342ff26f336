import java.nio.file.Files;
import java.nio.file.Path;
import java.util.List;
import java.util.regex.Matcher;
import java.util.regex.Pattern;

/** README.md's example runs, and each call in it answers what the remark behind it tells. */
public final class ReadmeTest {
    private static final Pattern CALL =
            Pattern.compile("names\\.(\\w+)\\((?:([^,)]+)(?:, ([^)]+))?)?\\);\\s+// (true|false|-?\\d+): .+");

    public static void main(String[] args) throws Exception {
        List<String> lines = Files.readAllLines(Path.of("README.md"));
        int from = lines.indexOf("```java");
        Due.is("README.md: has an example", from >= 0, true);
        Due.is("README.md: tells how to run the tests", lines.contains(".ci/run"), true);
        if (from >= 0) {
            runExample(lines.subList(from + 1, lines.size()));
        }
        Due.end();
    }

    private static void runExample(List<String> lines) {
        List<String> example = lines.subList(0, Math.max(0, lines.indexOf("```")));
        ReferredNames names = null;
        int calls = 0;
        for (String line : example) {
            Matcher call = CALL.matcher(line);
            if (line.equals("ReferredNames names = new ReferredNames();")) {
                names = new ReferredNames();
            } else if (names != null && call.matches()) {
                Due.is("README.md: " + line, answer(names, call), due(call.group(4)));
                calls++;
            } else {
                Due.isWrong("README.md: this line is no call with an answer: " + line);
            }
        }
        // Each of the eight methods stands in the example at least once.
        Due.is("README.md: has calls enough", calls >= 8, true);
        for (String method : List.of("put", "give", "refer", "find", "look", "byteOf", "count", "clear")) {
            boolean shown = example.stream().anyMatch(line -> line.startsWith("names." + method + "("));
            Due.is("README.md: shows " + method, shown, true);
        }
    }

    private static long answer(ReferredNames names, Matcher call) {
        long a = number(call.group(2));
        int b = (int) number(call.group(3));
        return switch (call.group(1)) {
            case "put" -> names.put(a, b) ? 1 : 0;
            case "give" -> names.give();
            case "refer" -> names.refer();
            case "find" -> names.find();
            case "look" -> names.look((int) a, b);
            case "byteOf" -> names.byteOf((int) a, b);
            case "count" -> names.count((int) a);
            case "clear" -> names.clear();
            default -> Long.MIN_VALUE;
        };
    }

    private static long number(String text) {
        return text == null ? 0 : Long.decode(text.replace("L", ""));
    }

    private static long due(String text) {
        return text.equals("true") ? 1 : text.equals("false") ? 0 : Long.parseLong(text);
    }
}
