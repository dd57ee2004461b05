import java.nio.file.Files;
import java.nio.file.Path;
import java.util.ArrayList;
import java.util.LinkedHashSet;
import java.util.List;
import java.util.Map;
import java.util.Set;
import java.util.TreeMap;
import java.util.regex.Matcher;
import java.util.regex.Pattern;

/**
 * How the source is laid out: the document's lines ahead of the calls and the order of these, and what
 * LANGUAGE.md says of how long methods are (rule 11), how deep calls go (11) and what calls itself (8).
 * Methods of one name are taken for one, so that more is looked at than there is, never less.
 */
public final class ShapeTest {
    private static final String SOURCE = "src/main/java/BeatDoubts.java";
    private static final String LAYOUT = """
            ---- beats: beat beats delay back set silence read came news expected score
            ---- watchers: watcher leaves measure wish info ledger limit doubts noticed
            ---- what would do: least longest shared saved
            ---- sheets: sheet lose put get copy write found count digest
            """;
    private static final int LONGEST_METHOD = 60;
    private static final int DEEPEST_CALLS = 8;
    private static final Pattern HEAD =
            Pattern.compile("( {4}| {8})(?:(?:public|private|static) )*(?:[\\w\\[\\]]+ )?(\\w+)\\([^()]*\\) \\{");
    private static final Set<String> NO_NAMES = Set.of("if", "for", "while", "switch", "catch");
    private static final Runs RUNS = new Runs();

    private final List<String> lines;
    private final Map<String, Set<String>> calls = new TreeMap<>();
    private final Map<String, Integer> depths = new TreeMap<>();

    private ShapeTest(List<String> lines) {
        this.lines = lines;
    }

    public static void main(String[] args) throws Exception {
        ShapeTest test = new ShapeTest(Files.readAllLines(Path.of(SOURCE)));
        test.layout();
        test.readMethods();
        test.depth();
        RUNS.end("ShapeTest");
    }

    private static void holds(String what, boolean does) {
        RUNS.due(what, does ? 1 : 0, 1);
    }

    private void layout() {
        int at = 0;
        for (String part : LAYOUT.split("\n")) {
            int colon = part.indexOf(':');
            at = behind("    // " + part.substring(0, colon), at);
            for (String name : part.substring(colon + 1).trim().split(" ")) {
                int next = nextPublic(at);
                boolean isDue = next < lines.size() && lines.get(next).matches(" {4}public \\w+ " + name + "\\(.*");
                holds("the next call is " + name, isDue);
                at = next + 1;
            }
        }
        holds("no call behind the last one", nextPublic(at) >= lines.size());
    }

    private int behind(String line, int from) {
        int at = from;
        while (at < lines.size() && !lines.get(at).equals(line)) {
            at++;
        }
        holds("behind the calls ahead of it stands" + line, at < lines.size());
        holds("ahead of" + line + " no other call", from == 0 || nextPublic(from) > at);
        return at + 1;
    }

    private int nextPublic(int from) {
        int at = from;
        while (at < lines.size() && !lines.get(at).matches(" {4}public (?!static)\\w+ \\w+\\(.*")) {
            at++;
        }
        return at;
    }

    private void readMethods() {
        for (int at = 0; at < lines.size(); at++) {
            Matcher head = HEAD.matcher(lines.get(at));
            if (head.matches() && !NO_NAMES.contains(head.group(2))) {
                int end = at;
                while (!lines.get(end).equals(head.group(1) + "}")) {
                    end++;
                }
                holds("a short method: " + head.group(2), end - at <= LONGEST_METHOD);
                noteCalls(head.group(2), lines.subList(at + 1, end));
            }
        }
    }

    private void noteCalls(String method, List<String> body) {
        Set<String> called = calls.computeIfAbsent(method, name -> new LinkedHashSet<>());
        for (String line : body) {
            Matcher call = Pattern.compile("\\b(\\w+)\\(").matcher(line.replaceAll("//.*|\\bMath\\.\\w+", ""));
            while (call.find()) {
                called.add(call.group(1));
            }
        }
    }

    private void depth() {
        Runs.face().forEach(method -> holds("found in the source: " + method, calls.containsKey(method.getName())));
        for (String method : new ArrayList<>(calls.keySet())) {
            int deep = depthOf(method, new LinkedHashSet<>());
            holds(method + " goes " + deep + " deep", deep <= DEEPEST_CALLS);
        }
    }

    private int depthOf(String method, Set<String> open) {
        if (!calls.containsKey(method)) {
            return 0;
        }
        if (depths.containsKey(method)) {
            return depths.get(method);
        }
        boolean isNew = open.add(method);
        holds(method + " does not come back to itself: " + open, isNew);
        if (!isNew) {
            return 0;
        }
        int deepest = 0;
        for (String called : calls.get(method)) {
            deepest = Math.max(deepest, depthOf(called, open));
        }
        open.remove(method);
        depths.put(method, deepest + 1);
        return deepest + 1;
    }
}
