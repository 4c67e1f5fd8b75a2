import java.io.IOException;
import java.nio.file.Files;
import java.nio.file.Path;
import java.util.Arrays;
import java.util.List;
import java.util.regex.Matcher;
import java.util.regex.Pattern;

/** README.md: its example answers as it says, its table names each call, its list each test. */
final class ReadmeTest {
    private static final Path README = Path.of("README.md");
    private static final Path TESTS = Path.of("src/test/java");
    private static final Pattern TEXT = Pattern.compile("String slice = \"(.*)\";.*");
    private static final Pattern CALL = Pattern.compile("x\\.(\\w+)\\(([-0-9, ]*)\\); *// (-?[0-9]+)(:.*)?");

    public static void main(String[] args) throws IOException {
        List<String> lines = Files.readAllLines(README);
        example(lines);
        calls(lines);
        tests(lines);
        Check.end();
    }

    private static void example(List<String> lines) {
        PeelReadings x = new PeelReadings();
        int asked = 0;
        for (String line : lines) {
            Matcher text = TEXT.matcher(line);
            Matcher call = CALL.matcher(line);
            if (text.matches()) {
                Check.write(x, 0, text.group(1));
            } else if (call.matches()) {
                long got = Twins.ask(x, call.group(1), numbers(call.group(2)));
                Check.due("README: " + line, got, Long.parseLong(call.group(3)));
                asked++;
            }
        }
        Check.due("README: calls with their answers", asked > 20 ? 1 : 0, 1);
    }

    private static int[] numbers(String list) {
        return Arrays.stream(list.split(", *")).filter(one -> !one.isEmpty()).mapToInt(Integer::parseInt).toArray();
    }

    private static void calls(List<String> lines) {
        String table = String.join("\n", lines.stream().filter(line -> line.startsWith("| `")).toList());
        for (String call : Twins.calls()) {
            Check.due("README: the table names " + call, table.split("`" + call + "`", -1).length - 1, 1);
        }
    }

    private static void tests(List<String> lines) throws IOException {
        String list = String.join("\n", lines.stream().filter(line -> line.startsWith("- ")).toList());
        try (var files = Files.list(TESTS)) {
            for (Path file : files.filter(one -> one.toString().endsWith("Test.java")).toList()) {
                String name = file.getFileName().toString().replace(".java", "");
                Check.due("README: the list names " + name, list.contains("`" + name + "`") ? 1 : 0, 1);
            }
        }
    }
}
