import java.lang.reflect.Method;
import java.util.ArrayList;
import java.util.Arrays;
import java.util.List;
import java.util.Set;

/**
 * "Refusals, the first that fits, in the order told at each act. They change nothing (FINDINGS but
 * count() 8)": every call, with all edges of each of its arguments together, in states from empty to
 * full. The Model tells which answer is due; what is refused, and what only asks, must leave the
 * object as its twin is to which the call was never made.
 */
public final class RefusalsTest {
    private static final int MIN = Integer.MIN_VALUE;
    private static final int MAX = Integer.MAX_VALUE;
    /** Those that change something, if they are not refused: none of them answers below NONE then. */
    private static final Set<String> ACTS = Set.of("beat", "beats", "delay", "back", "set", "silence", "read",
            "watcher", "leaves", "measure", "wish", "sheet", "lose", "put", "copy", "write");

    private static final String EMPTY = "";
    /** Each SHEET is of another kind; one WATCHER is without a LIMIT as long as there is one NEWS. */
    private static final String ORDINARY = """
            beat(5) = 1; beat(NONE) = 2; beat(30) = 3; beat(3) = 4; silence(90) = NONE; beats(7, 31, 7) = 7; set(0, 12) = 10
            set(1, 3) = 4; watcher(1, 7) = 0; watcher(3, 2) = 1; wish(0, 0, 60) = NONE; wish(1, 1, 2) = NONE
            sheet(0, 0, 4) = 4; put(0, 0, 1, 9) = 1; put(0, 0, 3, -7) = 1; sheet(1, 1, 6) = 6; write(1) = 2; put(1, 1, 5, 11) = 1
            sheet(2, 0, 0) = 0; sheet(0, 0, -1) = SIZE; shared() = 50
            """;
    private static final String FULL = """
            beats(2, 7, 40) = 40; watcher(0, 9) = 0; watcher(1, 9) = 1; watcher(2, 30) = 2; watcher(3, 3) = 3; watcher(0, 0) = 4
            wish(0, 0, 500) = NONE; wish(1, 1, 40) = NONE; sheet(0, 0, 40) = 40; put(0, 0, 39, 8) = 1; sheet(1, 1, 40) = 40
            write(1) = 29; sheet(2, 0, 40) = 40; put(2, 0, 0, 100) = 1; sheet(3, 1, 40) = 40; put(3, 1, 39, -1) = 1; silence(5000) = NONE
            """;

    private final Runs runs;
    private final String name;
    private final List<Runs.Call> state;
    private final List<Long> untouched;
    private final int finding;

    private RefusalsTest(Runs runs, String name, String state) throws Exception {
        this.runs = runs;
        this.name = name;
        this.state = Runs.callsOf(state);
        runs.of("the state " + name, this.state);
        BeatDoubts twin = made();
        this.finding = twin.count(8);
        this.untouched = allThatIsTold(twin);
    }

    public static void main(String[] args) throws Exception {
        Runs runs = new Runs();
        new RefusalsTest(runs, "empty", EMPTY).askEverything();
        new RefusalsTest(runs, "ordinary", ORDINARY).askEverything();
        new RefusalsTest(runs, "full", FULL).askEverything();
        runs.end("RefusalsTest");
    }

    private BeatDoubts made() throws Exception {
        BeatDoubts x = new BeatDoubts();
        for (Runs.Call call : state) {
            call.askClass(x);
        }
        return x;
    }

    private Model madeModel() throws Exception {
        Model model = new Model();
        for (Runs.Call call : state) {
            call.askModel(model);
        }
        return model;
    }

    private void askEverything() throws Exception {
        for (Method call : Runs.face()) {
            askAll(call, new Object[call.getParameterCount()], 0);
        }
    }

    private void askAll(Method call, Object[] arguments, int place) throws Exception {
        if (place == arguments.length) {
            askOne(call, arguments);
            return;
        }
        for (int v : edges(call.getName() + place)) {
            arguments[place] = v;
            askAll(call, arguments, place + 1);
        }
    }

    private void askOne(Method call, Object[] arguments) throws Exception {
        BeatDoubts x = made();
        String what = name + ": " + call.getName() + Arrays.toString(arguments);
        long want = Runs.ask(Runs.ofModel(call), madeModel(), arguments);
        runs.due(what, Runs.ask(call, x, arguments), want);
        if (ACTS.contains(call.getName()) && want >= -1) {
            return;
        }
        int found = findingOf(call, want);
        runs.due(what + ", then count(8)", x.count(8), found == 0 ? finding : found);
        boolean isUntouched = allThatIsTold(x).equals(untouched);
        runs.due(what + " changes nothing", isUntouched ? 1 : 0, 1);
    }

    /** Which FINDING an answer is, or 0. */
    private static int findingOf(Method call, long answer) {
        boolean isLong = call.getReturnType() == long.class;
        // What saved() answers may be any number.
        if (call.getName().equals("saved")) {
            return 0;
        }
        long refusal = isLong ? Long.MIN_VALUE - answer : answer;
        return refusal <= -11 && refusal >= -15 ? (int) (-10 - refusal) : 0;
    }

    /** All that can be told of an object; asking for it uses the object up. */
    private static List<Long> allThatIsTold(BeatDoubts x) {
        List<Long> told = new ArrayList<>(List.of(x.digest()));
        for (int s = -1; s <= 4; s++) {
            told.addAll(List.of((long) x.found(s, 0, 0), (long) x.found(s, 1, 0), (long) x.found(s, 2, 0)));
            for (int i = 0; i <= 40; i++) {
                told.add(x.get(s, i));
            }
        }
        told.addAll(List.of((long) x.set(0, 10), (long) x.set(1, 4), (long) x.silence(-1)));
        for (int n = 0; n <= 40; n++) {
            told.add((long) x.delay(n, 0));
        }
        for (int w = 0; w <= 5; w++) {
            told.addAll(List.of((long) x.measure(w, 1), (long) x.wish(w, 0, -1), (long) x.wish(w, 1, -1)));
        }
        for (int s = 0; s <= 3; s++) {
            told.add((long) x.lose(s));
        }
        return told;
    }

    private static int[] edges(String place) {
        switch (place) {
            case "beat0": return new int[] {MIN, -2, -1, 0, 99, 100, MAX};
            case "beats0": return new int[] {MIN, -1, 0, 99, 100, MAX};
            case "beats1": return new int[] {MIN, -100, -99, 99, 100, MAX};
            case "beats2": return new int[] {MIN, -1, 0, 1, 40, 41, MAX};
            case "delay0": case "came0": return new int[] {MIN, -1, 0, 9, 10, 11, 39, 40, MAX};
            case "delay1": return new int[] {MIN, -2, -1, 0, 99, 100, MAX};
            case "set1": return new int[] {MIN, -1, 0, 1, 16, 17, 50, 51, MAX};
            case "silence0": return new int[] {MIN, -2, -1, 0, 5000, 5001, MAX};
            case "news0": case "expected0": case "limit1": return new int[] {MIN, -1, 0, 1, 2, 3, 4, 9, 10, 39, 40, MAX};
            case "score0": case "doubts0": return new int[] {MIN, -1, 0, 1, 9, 50, 6000, 6001, MAX};
            case "watcher1": case "measure1":
                return new int[] {MIN, -1, 0, 1, 10, 11, 30, 31, 99, 100, 200, 201, MAX};
            case "wish2": return new int[] {MIN, -2, -1, 0, 40, 41, 500, 501, MAX};
            case "info1": return new int[] {MIN, -1, 0, 1, 2, 3, 4, 5, 6, 7, 8, 9, 10, MAX};
            case "ledger1": return new int[] {MIN, -1, 0, 1, 2, 3, 8, 9, 38, 39, MAX};
            case "least1": return new int[] {MIN, -1, 0, 1, 40, 41, MAX};
            case "sheet2": return new int[] {MIN, -1, 0, 40, 41, MAX};
            case "put2": return new int[] {MIN, -1, 0, 3, 4, 5, 6, 39, 40, MAX};
            case "put3": case "found2": return new int[] {MIN, 0, MAX};
            case "get1": return new int[] {MIN, -1, 0, 3, 4, 5, 6, 39, 40, MAX};
            case "copy1": case "copy3": case "copy4": return new int[] {-1, 0, 4, 40, 41, MAX};
            case "count0": return new int[] {MIN, -1, 0, 1, 2, 3, 4, 5, 6, 7, 8, 9, MAX};
            case "copy0": case "copy2": return new int[] {-1, 0, 1, 2, 3, 4};
            case "read0": case "sheet0": case "lose0": case "put0": case "get0": case "write0": case "found0":
                return new int[] {MIN, -1, 0, 1, 2, 3, 4, MAX};
            case "measure0": case "wish0": case "info0": case "ledger0": case "limit0": case "noticed0":
            case "longest0": return new int[] {MIN, -1, 0, 1, 2, 3, 4, 5, MAX};
            default: return new int[] {MIN, -1, 0, 1, 2, 3, 4, MAX};
        }
    }
}
