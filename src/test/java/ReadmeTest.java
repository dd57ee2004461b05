import java.nio.file.Files;
import java.nio.file.Path;
import java.util.ArrayList;
import java.util.List;
import java.util.Set;
import java.util.TreeSet;
import java.util.regex.Matcher;
import java.util.regex.Pattern;

/** What README.md says of the class: each row of its example, and its table of refusals. */
public final class ReadmeTest {
    private static final String NEW_OBJECT = "BeatDoubts x = new BeatDoubts();";
    private static final Pattern ROW = Pattern.compile("x\\.(\\w+\\([^)]*\\)); +// (-?\\w+)(?::.*)?");
    private static final Pattern REFUSAL = Pattern.compile("\\| `?([A-Z]+)`? \\| (-\\d+) \\|(.*?)\\|.*");
    private static final Pattern OF_LONGS = Pattern.compile("`Long\\.MIN_VALUE \\+ (\\d+)`.*");
    private static final Runs RUNS = new Runs();

    public static void main(String[] args) throws Exception {
        List<String> lines = Files.readAllLines(Path.of("README.md"));
        example(lines);
        refusals(lines);
        RUNS.end("ReadmeTest");
    }

    private static void example(List<String> lines) throws Exception {
        int first = lines.indexOf("```java");
        List<String> block = lines.subList(first + 1, first + 1 + lines.subList(first + 1, lines.size()).indexOf("```"));
        RUNS.due("the example begins with a new object", block.get(0).equals(NEW_OBJECT) ? 1 : 0, 1);
        List<Runs.Call> rows = new ArrayList<>();
        Set<String> asked = new TreeSet<>();
        for (String line : block.subList(1, block.size())) {
            if (line.isBlank() || line.startsWith("//")) {
                continue;
            }
            Matcher row = ROW.matcher(line);
            boolean isRow = row.matches();
            RUNS.due("a call with its answer: " + line, isRow ? 1 : 0, 1);
            if (isRow) {
                Runs.Call call = Runs.callsOf(row.group(1) + " = " + row.group(2)).get(0);
                rows.add(call);
                asked.add(call.ofClass().getName());
            }
        }
        RUNS.of("README.md", rows);
        Set<String> face = new TreeSet<>();
        Runs.face().forEach(method -> face.add(method.getName()));
        RUNS.due("README.md shows each call: " + asked, asked.equals(face) ? 1 : 0, 1);
    }

    private static void refusals(List<String> lines) {
        int found = 0;
        for (String line : lines) {
            Matcher row = REFUSAL.matcher(line);
            if (row.matches()) {
                found++;
                long answer = Long.parseLong(row.group(2));
                RUNS.due("README.md's " + row.group(1), answer, Runs.numberOf(row.group(1)));
                Matcher ofLongs = OF_LONGS.matcher(row.group(3).trim());
                if (ofLongs.matches()) {
                    RUNS.due("README.md's " + row.group(1) + ", of longs", Long.parseLong(ofLongs.group(1)), -answer);
                }
            }
        }
        RUNS.due("refusals in README.md", found, 9);
    }
}
