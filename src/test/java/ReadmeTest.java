import java.io.IOException;
import java.lang.reflect.Method;
import java.nio.file.DirectoryStream;
import java.nio.file.Files;
import java.nio.file.Path;
import java.util.Arrays;
import java.util.List;
import java.util.Set;
import java.util.TreeSet;
import java.util.regex.MatchResult;
import java.util.regex.Pattern;

/** What README.md, in the folder where this is run, says of the class's calls and of the tests is so. */
public final class ReadmeTest {
    private static final String OUT_OF_RANGE = "IllegalArgumentException";
    private static final Set<String> NOT_IN_TABLE = Set.of("", "on", "value");

    /** A line of the example: a call, then its answer or exception. */
    private static final Pattern EXAMPLE = Pattern.compile("(?m)^store\\.(.+\\)); +// (throws )?(.+?): .+$");
    /** An item that begins with a call and its parameters, up to the next item or a blank line. */
    private static final Pattern ITEM =
            Pattern.compile("(?ms)^- `(\\w+ (\\w+)\\((.*?)\\))`: (.*?)(?=^- |^$|\\z)");
    /** A row of the table of numbers: the names, the calls if not all are meant, and the range. */
    private static final Pattern RANGE =
            Pattern.compile("(?m)^\\| (`.+?)( of `.+`)? \\| (\\S+) \\.\\. (\\S+) \\|$");
    private static final Pattern EXCEPTION = Pattern.compile("\\w+Exception");
    private static final Pattern TEST_NAME = Pattern.compile("(?<=`)\\w+Test(?=`)");

    private final Faults faults = new Faults();
    private final String text;

    private ReadmeTest(String text) {
        this.text = text;
    }

    public static void main(String[] args) throws IOException {
        ReadmeTest test = new ReadmeTest(Files.readString(Path.of("README.md")));
        test.checkExample();
        test.checkCalls();
        test.checkRanges();
        test.checkTestNames(Path.of("src/test/java"));
        test.faults.finish();
    }

    private static List<MatchResult> all(Pattern pattern, String text) {
        return pattern.matcher(text).results().toList();
    }

    private void checkExample() {
        ChunkStore store = new ChunkStore();
        List<MatchResult> lines = all(EXAMPLE, text);
        long written = text.lines().filter(line -> line.startsWith("store.")).count();
        faults.expect(written > 0 && lines.size() == written, "example: some lines tell no answer");
        for (MatchResult line : lines) {
            String due = (line.group(2) == null ? "= " : "throws ") + line.group(3);
            String got = Call.of(line.group(1)).answer(store);
            faults.expect(got.equals(due), "example: " + line.group(1) + " " + got + ", not " + due);
        }
    }

    private void checkCalls() {
        List<MatchResult> items = all(ITEM, text);
        List<Method> calls = Face.calls();
        faults.expect(items.size() == calls.size(), items.size() + " calls are told of " + calls.size());
        for (Method call : calls) {
            Set<String> due = new TreeSet<>(Face.exceptions(call));
            faults.expect(items.stream().anyMatch(item -> tells(item, call, due)),
                    "not told with " + due + ": " + Face.signature(call));
        }
    }

    private static boolean tells(MatchResult item, Method call, Set<String> exceptions) {
        Set<String> told = new TreeSet<>();
        for (MatchResult exception : all(EXCEPTION, item.group(4))) {
            told.add(exception.group());
        }
        if (call.getParameterCount() > 0) {
            // README.md tells this once for all calls that take a number.
            told.add(OUT_OF_RANGE);
        }
        String signature = item.group(1).replaceAll(" \\w+(?=[,)])", "");
        return signature.equals(Face.signature(call)) && told.equals(exceptions);
    }

    private void checkRanges() {
        for (MatchResult item : all(ITEM, text)) {
            String[] names = item.group(3).replaceAll("\\w+ (\\w+)", "$1").split(", ");
            for (int i = 0; i < names.length; i++) {
                if (!NOT_IN_TABLE.contains(names[i])) {
                    checkRange(item.group(2), names, i);
                }
            }
        }
    }

    private void checkRange(String call, String[] names, int index) {
        int rows = 0;
        for (MatchResult row : all(RANGE, text)) {
            if (isFor(row, call, names[index])) {
                rows++;
                checkBound(call, names, index, row.group(3), -1);
                checkBound(call, names, index, row.group(4), 1);
            }
        }
        faults.expect(rows == 1, "range of " + names[index] + " of " + call + ": told in " + rows + " rows");
    }

    private static boolean isFor(MatchResult row, String call, String name) {
        boolean ofAll = row.group(2) == null;
        return row.group(1).contains("`" + name + "`") && (ofAll || row.group(2).contains("`" + call + "`"));
    }

    private void checkBound(String call, String[] names, int index, String bound, int outwards) {
        boolean isDouble = bound.contains(".");
        String beyond = isDouble
                ? Double.toString(Double.parseDouble(bound) + outwards)
                : Integer.toString(Integer.parseInt(bound) + outwards);
        String title = "range of " + names[index] + " of " + call + ": ";
        faults.expect(!isRefused(call, names.length, index, bound), title + bound + " is refused");
        faults.expect(isRefused(call, names.length, index, beyond), title + beyond + " is not refused");
    }

    /** Made on a new object with 0 for all other numbers. */
    private static boolean isRefused(String call, int count, int index, String number) {
        String[] arguments = new String[count];
        Arrays.fill(arguments, "0");
        arguments[index] = number;
        String answer = Call.of(call + "(" + String.join(", ", arguments) + ")").answer(new ChunkStore());
        return answer.equals("throws " + OUT_OF_RANGE);
    }

    private void checkTestNames(Path folder) throws IOException {
        Set<String> told = new TreeSet<>();
        for (MatchResult name : all(TEST_NAME, text)) {
            told.add(name.group());
        }
        Set<String> due = new TreeSet<>();
        try (DirectoryStream<Path> files = Files.newDirectoryStream(folder, "*Test.java")) {
            for (Path file : files) {
                due.add(file.getFileName().toString().replace(".java", ""));
            }
        }
        faults.expect(told.equals(due), "the tests told are " + told + ", not " + due);
    }
}
