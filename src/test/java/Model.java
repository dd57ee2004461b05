import java.util.ArrayList;
import java.util.Comparator;
import java.util.List;

/**
 * The document said a second time, as slowly and as literally as it can be, to be asked beside the
 * class: arrivals are really put in order, times are really tried one after the other, what is no
 * number is really NaN, and nothing is kept from one call to the next.
 */
final class Model {
    private record Arrival(int beat, int time) { }

    private record Mistake(int begin, int end, int news) { }

    private record Watch(List<Integer> begins, List<Mistake> mistakes, int lag) { }

    private static final int[] LOW = {0, 1, 1, 0};
    private static final int[] HIGH = {99, 10, 200, 30};

    private final List<Integer> delays = new ArrayList<>();
    private final List<int[]> watchers = new ArrayList<>();
    private final Object[] sheets = new Object[4];
    private int period = 10;
    private int window = 4;
    private int silence = -1;
    private int finding = 0;

    private static boolean in(int v, int low, int high) {
        return low <= v && v <= high;
    }

    private static long refused(int code) {
        return Long.MIN_VALUE + -code;
    }

    private int finds(int number) {
        finding = number;
        return -10 - number;
    }

    // ---- the terms

    private boolean isLost(int n, int p) {
        return delays.get(n) == -1 || (silence != -1 && n * p >= silence);
    }

    private List<Arrival> newsWith(int p) {
        List<Arrival> all = new ArrayList<>();
        for (int n = 0; n < delays.size(); n++) {
            if (!isLost(n, p)) {
                all.add(new Arrival(n, n * p + delays.get(n)));
            }
        }
        all.sort(Comparator.comparingInt(Arrival::time).thenComparingInt(Arrival::beat));
        List<Arrival> news = new ArrayList<>();
        int greatest = -1;
        for (Arrival a : all) {
            if (a.beat > greatest) {
                news.add(a);
                greatest = a.beat;
            }
        }
        return news;
    }

    private long[] expectedBy(List<Arrival> news, int i, int p) {
        long sum = 0;
        long many = 0;
        for (int k = i; k >= 0 && many < window; k--) {
            sum += news.get(k).time - (long) p * news.get(k).beat;
            many++;
        }
        return lowest(sum + many * p * (news.get(i).beat + 1), many);
    }

    private static long[] lowest(long above, long below) {
        for (long d = below; d > 1; d--) {
            if (above % d == 0 && below % d == 0) {
                return new long[] {above / d, below / d};
            }
        }
        return new long[] {above, below};
    }

    private List<Integer> gapsBy(List<Arrival> news, int i) {
        List<Integer> gaps = new ArrayList<>();
        for (int k = i; k >= 1 && gaps.size() < window; k--) {
            gaps.add(news.get(k).time - news.get(k - 1).time);
        }
        return gaps;
    }

    private int beginBy(List<Arrival> news, int i, int p, int sort, int measure, int mistakes) {
        int came = news.get(i).time;
        List<Integer> gaps = gapsBy(news, i);
        if (sort == 1 && gaps.isEmpty()) {
            return -1;
        }
        long[] e = expectedBy(news, i, p);
        // No DOUBT begins ahead of when it came, so no sooner time has to be tried.
        for (int t = came; ; t++) {
            boolean reached;
            if (sort == 1) {
                int shorter = 0;
                for (int gap : gaps) {
                    shorter += gap < t - came ? 1 : 0;
                }
                reached = shorter * 10 >= measure * gaps.size();
            } else if (sort == 2) {
                reached = t >= came + measure;
            } else {
                long margin = sort == 0 ? measure : (long) measure * (mistakes + 1);
                reached = t * e[1] >= e[0] + margin * e[1];
            }
            if (reached) {
                return t;
            }
        }
    }

    private Watch watch(int p, int sort, int measure) {
        List<Arrival> news = newsWith(p);
        List<Integer> begins = new ArrayList<>();
        List<Mistake> mistakes = new ArrayList<>();
        int lag = -1;
        for (int i = 0; i < news.size(); i++) {
            int begin = beginBy(news, i, p, sort, measure, mistakes.size());
            begins.add(begin);
            if (begin != -1) {
                lag = Math.max(lag, begin - p * news.get(i).beat);
                if (i + 1 < news.size() && news.get(i + 1).time > begin) {
                    mistakes.add(new Mistake(begin, news.get(i + 1).time, i));
                }
            }
        }
        return new Watch(begins, mistakes, lag);
    }

    private Watch watchOf(int w) {
        return watch(period, watchers.get(w)[0], watchers.get(w)[1]);
    }

    private boolean keeps(int w, int p) {
        int[] own = watchers.get(w);
        Watch seen = watch(p, own[0], own[1]);
        boolean noticeHolds = own[2] == -1 || seen.lag == -1 || seen.lag <= own[2];
        boolean fewHolds = own[3] == -1 || seen.mistakes.size() <= own[3];
        return noticeHolds && fewHolds;
    }

    private int forGood(int w) {
        List<Integer> begins = watchOf(w).begins;
        return begins.isEmpty() ? -1 : begins.get(begins.size() - 1);
    }

    // ---- beats

    int beat(int delay) {
        if (!in(delay, -1, 99)) {
            return -2;
        }
        if (delays.size() == 40) {
            return -4;
        }
        delays.add(delay);
        return delays.size();
    }

    int beats(int a, int d, int n) {
        if (!in(a, 0, 99) || !in(d, -99, 99) || !in(n, 1, 40)) {
            return -2;
        }
        int added = 0;
        for (int v = a; added < n && delays.size() < 40; v = (v + d + 100) % 100) {
            delays.add(v);
            added++;
        }
        return added;
    }

    int delay(int n, int v) {
        return !in(n, 0, delays.size() - 1) || !in(v, -1, 99) ? -2 : delays.set(n, v);
    }

    int back() {
        if (delays.isEmpty()) {
            return -3;
        }
        delays.remove(delays.size() - 1);
        return delays.size();
    }

    int set(int what, int v) {
        if (what == 0 && in(v, 1, 50)) {
            int before = period;
            period = v;
            return before;
        }
        if (what == 1 && in(v, 1, 16)) {
            int before = window;
            window = v;
            return before;
        }
        return -2;
    }

    int silence(int t) {
        if (!in(t, -1, 5000)) {
            return -2;
        }
        int before = silence;
        silence = t;
        return before;
    }

    int read(int s) {
        if (!in(s, 0, 3)) {
            return -2;
        }
        if (sheets[s] == null) {
            return finds(1);
        }
        if (!(sheets[s] instanceof long[] row)) {
            return finds(3);
        }
        int added = 0;
        for (long v : row) {
            if (v < -1 || v > 99 || delays.size() == 40) {
                break;
            }
            delays.add((int) v);
            added++;
        }
        return added;
    }

    int came(int n, int what) {
        if (!in(n, 0, delays.size() - 1) || !in(what, 0, 2)) {
            return -2;
        }
        if (isLost(n, period)) {
            return -1;
        }
        if (what == 0) {
            return delays.get(n);
        }
        if (what == 1) {
            return n * period + delays.get(n);
        }
        List<Arrival> news = newsWith(period);
        for (int i = 0; i < news.size(); i++) {
            if (news.get(i).beat == n) {
                return i;
            }
        }
        return -1;
    }

    int news(int i, int what) {
        List<Arrival> news = newsWith(period);
        if (!in(i, 0, news.size() - 1) || !in(what, 0, 2)) {
            return -2;
        }
        return what == 0 ? news.get(i).beat : what == 1 ? news.get(i).time : gapsBy(news, i).size();
    }

    long expected(int i, int what) {
        List<Arrival> news = newsWith(period);
        if (!in(i, 0, news.size() - 1) || !in(what, 0, 1)) {
            return refused(-2);
        }
        return expectedBy(news, i, period)[what];
    }

    long score(int t, int what) {
        if (!in(t, 0, 6000) || !in(what, 0, 1)) {
            return refused(-2);
        }
        List<Arrival> news = newsWith(period);
        int latest = -1;
        for (int i = 0; i < news.size(); i++) {
            if (news.get(i).time <= t) {
                latest = i;
            }
        }
        if (latest < 1) {
            return refused(-3);
        }
        int past = t - news.get(latest).time;
        List<Integer> gaps = gapsBy(news, latest);
        return lowest(gaps.stream().filter(g -> g < past).count(), gaps.size())[what];
    }

    // ---- watchers

    int watcher(int sort, int measure) {
        if (!in(sort, 0, 3) || !in(measure, LOW[sort], HIGH[sort])) {
            return -2;
        }
        if (watchers.size() == 5) {
            return -4;
        }
        watchers.add(new int[] {sort, measure, -1, -1});
        return watchers.size() - 1;
    }

    int leaves() {
        if (watchers.isEmpty()) {
            return -3;
        }
        watchers.remove(watchers.size() - 1);
        return watchers.size();
    }

    private boolean isWatcher(int w) {
        return in(w, 0, watchers.size() - 1);
    }

    int measure(int w, int v) {
        if (!isWatcher(w) || !in(v, LOW[watchers.get(w)[0]], HIGH[watchers.get(w)[0]])) {
            return -2;
        }
        int before = watchers.get(w)[1];
        watchers.get(w)[1] = v;
        return before;
    }

    int wish(int w, int what, int v) {
        if (!isWatcher(w) || !in(what, 0, 1) || !in(v, -1, what == 0 ? 500 : 40)) {
            return -2;
        }
        int before = watchers.get(w)[2 + what];
        watchers.get(w)[2 + what] = v;
        return before;
    }

    int info(int w, int what) {
        if (!isWatcher(w) || !in(what, 0, 9)) {
            return -2;
        }
        if (what <= 3) {
            return watchers.get(w)[what];
        }
        List<Mistake> mistakes = watchOf(w).mistakes;
        switch (what) {
            case 4: return mistakes.size();
            case 5: return mistakes.stream().mapToInt(m -> m.end - m.begin).sum();
            case 6: return mistakes.stream().mapToInt(m -> m.end - m.begin).max().orElse(0);
            case 7: return watchOf(w).lag;
            case 8: return keeps(w, period) ? 1 : 0;
            default: return forGood(w);
        }
    }

    int ledger(int w, int k, int what) {
        if (!isWatcher(w) || !in(k, 0, watchOf(w).mistakes.size() - 1) || !in(what, 0, 2)) {
            return -2;
        }
        Mistake m = watchOf(w).mistakes.get(k);
        return what == 0 ? m.begin : what == 1 ? m.end : m.news;
    }

    int limit(int w, int i) {
        if (!isWatcher(w) || !in(i, 0, newsWith(period).size() - 1)) {
            return -2;
        }
        return watchOf(w).begins.get(i);
    }

    int doubts(int t) {
        if (!in(t, 0, 6000)) {
            return -2;
        }
        int bits = 0;
        for (int w = 0; w < watchers.size(); w++) {
            boolean doubts = forGood(w) != -1 && forGood(w) <= t;
            for (Mistake m : watchOf(w).mistakes) {
                doubts |= m.begin <= t && t < m.end;
            }
            bits += doubts ? 1 << w : 0;
        }
        return bits;
    }

    int noticed(int w) {
        if (!isWatcher(w)) {
            return -2;
        }
        int begin = forGood(w);
        if (silence == -1 || begin == -1) {
            return -1;
        }
        return begin < silence ? 0 : begin - silence;
    }

    // ---- what would do

    int least(int sort, int m) {
        if (!in(sort, 0, 2) || !in(m, 0, 40)) {
            return -2;
        }
        int least = -1;
        for (int v = HIGH[sort]; v >= LOW[sort]; v--) {
            if (watch(period, sort, v).mistakes.size() <= m) {
                least = v;
            }
        }
        return least;
    }

    int longest(int w) {
        if (!isWatcher(w)) {
            return -2;
        }
        for (int p = 50; p >= 1; p--) {
            if (keeps(w, p)) {
                return p;
            }
        }
        return -1;
    }

    int shared() {
        for (int p = 50; p >= 1; p--) {
            boolean all = true;
            for (int w = 0; w < watchers.size() && all; w++) {
                all = keeps(w, p);
            }
            if (all) {
                return p;
            }
        }
        return -1;
    }

    private static int sentWith(int p) {
        int sent = 0;
        for (int t = 0; t <= 1000; t += p) {
            sent++;
        }
        return sent;
    }

    int saved() {
        if (watchers.isEmpty() || shared() == -1) {
            return Integer.MIN_VALUE;
        }
        int sent = -sentWith(shared());
        for (int w = 0; w < watchers.size(); w++) {
            sent += sentWith(longest(w));
        }
        return sent;
    }

    // ---- sheets

    private static int sizeOf(Object sheet) {
        return sheet instanceof long[] row ? row.length : ((double[]) sheet).length;
    }

    private static int formOf(Object sheet) {
        return sheet instanceof long[] ? 0 : 1;
    }

    int sheet(int s, int form, int n) {
        if (!in(s, 0, 3) || !in(form, 0, 1) || n > 40) {
            return -2;
        }
        if (n < 0) {
            return finds(5);
        }
        sheets[s] = form == 0 ? new long[n] : new double[n];
        return n;
    }

    int lose(int s) {
        if (!in(s, 0, 3)) {
            return -2;
        }
        if (sheets[s] == null) {
            return finds(1);
        }
        int size = sizeOf(sheets[s]);
        sheets[s] = null;
        return size;
    }

    int put(int s, int form, int i, int v) {
        if (!in(s, 0, 3) || !in(form, 0, 1)) {
            return -2;
        }
        if (sheets[s] == null) {
            return finds(1);
        }
        if (formOf(sheets[s]) != form) {
            return finds(3);
        }
        if (!in(i, 0, sizeOf(sheets[s]) - 1)) {
            return finds(2);
        }
        if (sheets[s] instanceof long[] row) {
            row[i] = v;
        } else {
            ((double[]) sheets[s])[i] = v / 8.0;
        }
        return 1;
    }

    long get(int s, int i) {
        if (!in(s, 0, 3)) {
            return refused(-2);
        }
        if (sheets[s] == null) {
            return refused(finds(1));
        }
        if (!in(i, 0, sizeOf(sheets[s]) - 1)) {
            return refused(finds(2));
        }
        if (sheets[s] instanceof long[] row) {
            return row[i];
        }
        double v = ((double[]) sheets[s])[i];
        return Double.isNaN(v) ? Long.MIN_VALUE + 1 : (long) (8 * v);
    }

    int copy(int s, int i, int t, int j, int n) {
        if (!in(s, 0, 3) || !in(t, 0, 3)) {
            return -2;
        }
        if (sheets[s] == null || sheets[t] == null) {
            return finds(1);
        }
        if (formOf(sheets[s]) != formOf(sheets[t])) {
            return finds(4);
        }
        long from = sizeOf(sheets[s]);
        long to = sizeOf(sheets[t]);
        if (i < 0 || j < 0 || n < 0 || (long) i + n > from || (long) j + n > to) {
            return finds(2);
        }
        System.arraycopy(sheets[s], i, sheets[t], j, n);
        return 1;
    }

    int write(int s) {
        if (!in(s, 0, 3)) {
            return -2;
        }
        if (sheets[s] == null) {
            return finds(1);
        }
        if (!(sheets[s] instanceof double[] row)) {
            return finds(3);
        }
        List<Arrival> news = newsWith(period);
        int numbers = 0;
        for (int n = 0; n < row.length && n < delays.size(); n++) {
            row[n] = Double.NaN;
            int i = came(n, 2);
            if (i > 0) {
                long[] e = expectedBy(news, i - 1, period);
                row[n] = (double) (news.get(i).time * e[1] - e[0]) / (double) e[1];
                numbers++;
            }
        }
        return numbers;
    }

    int found(int s, int what, int v) {
        if (!in(s, 0, 3) || !in(what, 0, 2)) {
            return -2;
        }
        if (sheets[s] == null) {
            return finds(1);
        }
        if (!(sheets[s] instanceof double[] row)) {
            return finds(3);
        }
        int all = 0;
        for (double d : row) {
            all += (what == 0 ? Double.isNaN(d) : what == 1 ? d > v / 8.0 : d < v / 8.0) ? 1 : 0;
        }
        return all;
    }

    int count(int what) {
        List<Arrival> news = newsWith(period);
        int all = 0;
        switch (what) {
            case 0:
                return delays.size();
            case 1:
                for (int n = 0; n < delays.size(); n++) {
                    all += isLost(n, period) ? 1 : 0;
                }
                return all;
            case 2:
                return news.size();
            case 3:
                return watchers.size();
            case 4:
                for (int w = 0; w < watchers.size(); w++) {
                    all += watchOf(w).mistakes.size();
                }
                return all;
            case 5:
                for (int w = 0; w < watchers.size(); w++) {
                    all += keeps(w, period) ? 1 << w : 0;
                }
                return all;
            case 6:
                return news.isEmpty() ? -1 : news.get(news.size() - 1).time;
            case 7:
                for (int w = 0; w < watchers.size(); w++) {
                    all += forGood(w) != -1 ? 1 : 0;
                }
                return all;
            case 8:
                return finding;
            default:
                return -2;
        }
    }

    long digest() {
        List<Long> told = new ArrayList<>();
        for (int what = 0; what <= 7; what++) {
            told.add((long) count(what));
        }
        for (int n = 0; n < delays.size(); n++) {
            for (int what = 0; what <= 2; what++) {
                told.add((long) came(n, what));
            }
        }
        int newsCount = newsWith(period).size();
        for (int i = 0; i < newsCount; i++) {
            for (int what = 0; what <= 2; what++) {
                told.add((long) news(i, what));
            }
            told.add(expected(i, 0));
            told.add(expected(i, 1));
        }
        for (int w = 0; w < watchers.size(); w++) {
            tellWatcher(w, newsCount, told);
        }
        for (int t = 0; t <= 1000; t += 50) {
            told.add((long) doubts(t));
            told.add(score(t, 0));
            told.add(score(t, 1));
        }
        for (int sort = 0; sort <= 2; sort++) {
            told.add((long) least(sort, 0));
            told.add((long) least(sort, 2));
        }
        told.add((long) shared());
        told.add((long) saved());
        long h = 17;
        for (long v : told) {
            h = 31 * h + v;
        }
        return h;
    }

    private void tellWatcher(int w, int newsCount, List<Long> told) {
        for (int what = 0; what <= 9; what++) {
            told.add((long) info(w, what));
        }
        told.add((long) noticed(w));
        told.add((long) longest(w));
        for (int k = 0; k < info(w, 4); k++) {
            for (int what = 0; what <= 2; what++) {
                told.add((long) ledger(w, k, what));
            }
        }
        for (int i = 0; i < newsCount; i++) {
            told.add((long) limit(w, i));
        }
    }
}
