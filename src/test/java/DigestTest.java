import java.math.BigInteger;
import java.util.ArrayList;
import java.util.List;

/** Promise 34: the digest is what the other calls answer, in the order told. */
public final class DigestTest {
    private static final Runs RUNS = new Runs();

    public static void main(String[] args) {
        ofNewObject();
        ofOneThatWasUsed();
        ofOneThatIsFull();
        wraps();
        changesNothing();
        RUNS.end("DigestTest");
    }

    private static void ofNewObject() {
        long h = 17;
        for (int v : new int[] {0, 0, 0, 0, 0, 0, -1, 0}) {
            h = 31 * h + v;
        }
        for (int t = 0; t <= 1000; t += 50) {
            h = 31 * h;
            h = 31 * h + Long.MIN_VALUE + 3;
            h = 31 * h + Long.MIN_VALUE + 3;
        }
        for (int v : new int[] {0, 0, 1, 1, 1, 1, 50, Integer.MIN_VALUE}) {
            h = 31 * h + v;
        }
        RUNS.due("34 digest of a new object", new BeatDoubts().digest(), h);
    }

    private static BeatDoubts used() {
        BeatDoubts x = new BeatDoubts();
        x.beats(25, -10, 3);
        x.beat(-1);
        x.beats(20, -11, 7);
        x.beat(90);
        x.beats(3, 41, 9);
        x.watcher(0, 2);
        x.watcher(1, 7);
        x.watcher(2, 12);
        x.watcher(3, 4);
        x.wish(0, 0, 90);
        x.wish(1, 1, 3);
        x.wish(3, 0, 110);
        x.wish(3, 1, 6);
        return x;
    }

    private static void ofOneThatWasUsed() {
        BeatDoubts x = used();
        RUNS.due("34 digest", x.digest(), composed(x));
        x.silence(160);
        RUNS.due("34 digest with SILENCE", x.digest(), composed(x));
        x.set(0, 23);
        x.set(1, 9);
        RUNS.due("34 digest with another PERIOD and WINDOW", x.digest(), composed(x));
        x.leaves();
        x.back();
        RUNS.due("34 digest with less", x.digest(), composed(x));
    }

    private static BeatDoubts full() {
        BeatDoubts x = new BeatDoubts();
        x.set(1, 1);
        x.beats(0, 1, 40);
        x.watcher(0, 0);
        x.watcher(1, 1);
        x.watcher(2, 1);
        x.watcher(3, 0);
        x.watcher(0, 99);
        return x;
    }

    private static void ofOneThatIsFull() {
        BeatDoubts x = full();
        RUNS.due("34 digest of all that there is room for", x.digest(), composed(x));
        RUNS.due("34 as many MISTAKES as can be", x.info(3, 4), 39);
        x.wish(4, 0, 0);
        RUNS.due("34 digest, refusals as they are answered", x.saved(), Integer.MIN_VALUE);
        RUNS.due("34 digest with nothing SHARED", x.digest(), composed(x));
    }

    /** The same sum without any wrapping, cut to a long at the end. */
    private static void wraps() {
        BeatDoubts x = full();
        BigInteger h = BigInteger.valueOf(17);
        for (long v : toldOf(x)) {
            h = h.multiply(BigInteger.valueOf(31)).add(BigInteger.valueOf(v));
        }
        RUNS.due("34 more than a long holds", h.bitLength() > 64 ? 1 : 0, 1);
        RUNS.due("34 as longs that wrap", x.digest(), h.longValue());
    }

    private static void changesNothing() {
        BeatDoubts x = used();
        BeatDoubts y = used();
        RUNS.due("34 digest of its like", x.digest(), y.digest());
        RUNS.due("34 digest again", x.digest(), y.digest());
        x.lose(0);
        RUNS.due("34 digest does not tell FINDINGS", x.digest(), y.digest());
        RUNS.due("34 digest leaves FINDINGS", x.count(8), 1);
        x.sheet(0, 0, 3);
        RUNS.due("34 digest does not tell SHEETS", x.digest(), y.digest());
        x.delay(3, 1);
        RUNS.due("34 digest tells a DELAY", x.digest() == y.digest() ? 1 : 0, 0);
    }

    private static long composed(BeatDoubts x) {
        long h = 17;
        for (long v : toldOf(x)) {
            h = 31 * h + v;
        }
        return h;
    }

    private static List<Long> toldOf(BeatDoubts x) {
        List<Long> told = new ArrayList<>();
        for (int what = 0; what <= 7; what++) {
            told.add((long) x.count(what));
        }
        for (int n = 0; n < x.count(0); n++) {
            told.addAll(List.of((long) x.came(n, 0), (long) x.came(n, 1), (long) x.came(n, 2)));
        }
        for (int i = 0; i < x.count(2); i++) {
            told.addAll(List.of((long) x.news(i, 0), (long) x.news(i, 1), (long) x.news(i, 2)));
            told.addAll(List.of(x.expected(i, 0), x.expected(i, 1)));
        }
        for (int w = 0; w < x.count(3); w++) {
            for (int what = 0; what <= 9; what++) {
                told.add((long) x.info(w, what));
            }
            told.addAll(List.of((long) x.noticed(w), (long) x.longest(w)));
            for (int k = 0; k < x.info(w, 4); k++) {
                told.addAll(List.of((long) x.ledger(w, k, 0), (long) x.ledger(w, k, 1), (long) x.ledger(w, k, 2)));
            }
            for (int i = 0; i < x.count(2); i++) {
                told.add((long) x.limit(w, i));
            }
        }
        for (int t = 0; t <= 1000; t += 50) {
            told.addAll(List.of((long) x.doubts(t), x.score(t, 0), x.score(t, 1)));
        }
        for (int sort = 0; sort <= 2; sort++) {
            told.addAll(List.of((long) x.least(sort, 0), (long) x.least(sort, 2)));
        }
        told.addAll(List.of((long) x.shared(), (long) x.saved()));
        return told;
    }
}
