import java.lang.reflect.Method;
import java.util.ArrayList;
import java.util.List;
import java.util.Random;

/** All promises: long runs of calls, the same ones every time, each asked of the Model as well. */
public final class ModelTest {
    private static final int RUNS_OF_CALLS = 400;
    private static final int CALLS = 128;
    /** Some that change things come more often, so that there is something to be told. */
    private static final List<String> OFTEN = List.of("beat", "beats", "watcher", "wish", "delay", "sheet", "put");
    private static final List<String> SELDOM = List.of("back", "leaves", "lose", "digest");
    private static final int[] EDGES = {Integer.MIN_VALUE, -100, -99, -2, -1, 0, 1, 2, 3, 4, 5, 7, 8, 9, 10, 16, 17,
        30, 31, 39, 40, 41, 50, 51, 99, 100, 200, 201, 500, 501, 5000, 5001, 6000, 6001, Integer.MAX_VALUE};

    private final Random random;
    private final List<Method> calls = new ArrayList<>();

    private ModelTest(long seed) {
        random = new Random(seed);
        for (Method m : Runs.face()) {
            int times = OFTEN.contains(m.getName()) ? 4 : SELDOM.contains(m.getName()) ? 1 : 2;
            for (int k = 0; k < times; k++) {
                calls.add(m);
            }
        }
    }

    public static void main(String[] args) throws Exception {
        Runs runs = new Runs();
        for (int run = 0; run < RUNS_OF_CALLS; run++) {
            new ModelTest(run).goThrough(run, runs);
        }
        runs.end("ModelTest");
    }

    private void goThrough(int run, Runs runs) throws Exception {
        BeatDoubts x = new BeatDoubts();
        Model model = new Model();
        for (int k = 0; k < CALLS; k++) {
            Method asked = calls.get(random.nextInt(calls.size()));
            Object[] arguments = new Object[asked.getParameterCount()];
            for (int a = 0; a < arguments.length; a++) {
                arguments[a] = argument(asked.getName(), a, arguments);
            }
            long got = Runs.ask(asked, x, arguments);
            long want = Runs.ask(Runs.ofModel(asked), model, arguments);
            String name = "run " + run + ", call " + k + ": " + asked.getName() + java.util.Arrays.toString(arguments);
            runs.due(name, got, want);
        }
        runs.due("run " + run + ": digest at the end", x.digest(), model.digest());
    }

    private int upTo(int from, int to) {
        return from + random.nextInt(to - from + 1);
    }

    /** Mostly one that may be, sometimes one at an edge. */
    private int argument(String call, int place, Object[] before) {
        if (random.nextInt(14) == 0) {
            return EDGES[random.nextInt(EDGES.length)];
        }
        switch (call + place) {
            case "beat0": case "delay1": return random.nextInt(5) == 0 ? -1 : upTo(0, random.nextBoolean() ? 20 : 99);
            case "beats0": return upTo(0, 99);
            case "beats1": return upTo(-99, 99);
            case "beats2": return upTo(1, 12);
            case "delay0": case "came0": return upTo(0, 20);
            case "news0": case "expected0": case "limit1": return upTo(0, 9);
            case "set1": return (Integer) before[0] == 0 ? upTo(1, 50) : upTo(1, 16);
            case "silence0": return random.nextInt(3) == 0 ? upTo(0, 900) : -1;
            case "score0": case "doubts0": return upTo(0, 700);
            case "watcher0": return upTo(0, 3);
            case "watcher1": return measureFor((Integer) before[0]);
            case "measure1": return measureFor(upTo(0, 3));
            case "wish2": return (Integer) before[1] == 0 ? upTo(-1, 160) : upTo(-1, 6);
            case "info1": return upTo(0, 9);
            case "ledger1": return upTo(0, 4);
            case "least1": return upTo(0, 4);
            case "put3": return random.nextInt(4) == 0 ? random.nextInt() : upTo(-1, 99);
            case "found2": return upTo(-200, 200);
            case "count0": return upTo(0, 8);
            case "sheet2": return upTo(0, 12);
            case "put2": case "get1": case "copy1": case "copy3": case "copy4": return upTo(0, 8);
            case "measure0": case "wish0": case "info0": case "ledger0": case "limit0": case "noticed0":
            case "longest0": return upTo(0, 4);
            case "read0": case "sheet0": case "lose0": case "put0": case "get0": case "copy0": case "copy2":
            case "write0": case "found0": return upTo(0, 3);
            case "set0": case "wish1": case "expected1": case "score1": case "sheet1": case "put1": return upTo(0, 1);
            default: return upTo(0, 2);
        }
    }

    private int measureFor(int sort) {
        switch (sort) {
            case 0: return upTo(0, random.nextBoolean() ? 20 : 99);
            case 1: return upTo(1, 10);
            case 2: return upTo(1, random.nextBoolean() ? 40 : 200);
            default: return upTo(0, 30);
        }
    }
}
