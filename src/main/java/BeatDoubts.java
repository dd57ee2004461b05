/**
 * Doubts about a sender of beats: which arrivals are news, when the next one is expected, and what
 * watchers of four sorts make of them. The words in capitals are those of the document.
 */
public final class BeatDoubts {
    public static final int NONE = -1, BAD = -2, NOT = -3, FULL = -4;

    private static final int NULL = 1, INDEX = 2, CAST = 3, STORE = 4, SIZE = 5;
    private static final int LONGS = 0, DOUBLES = 1;
    private static final int BY_MARGIN = 0, BY_SHARE = 1, BY_TIME = 2, BY_LEARNING = 3;

    private static final int MOST_BEATS = 40, MOST_WATCHERS = 5, MOST_SHEETS = 4, MOST_ITEMS = 40;
    private static final int GREATEST_DELAY = 99, GREATEST_PERIOD = 50, GREATEST_WINDOW = 16;
    private static final int LATEST_SILENCE = 5000, LATEST_TIME = 6000;
    private static final int GREATEST_NOTICE = 500, GREATEST_FEW = 40;
    private static final int TIME_OF_SAVING = 1000;

    /** Later than any BEAT may come. */
    private static final int NEVER = 1000000;
    private static final int LEAST_INT = -2147483648;
    private static final long LEAST_LONG = -9223372036854775808L;

    /** By SORT. */
    private static final int[] LEAST_MEASURES = {0, 1, 1, 0};
    private static final int[] GREATEST_MEASURES = {99, 10, 200, 30};

    private final int[] delays;
    private int beatCount;
    private int period;
    private int window;
    private int silence;
    private final Watcher[] watchers;
    private int watcherCount;
    private final Sheet[] sheets;
    private int latestFinding;

    /** What follows from all that was told; it stands only while isFollowed does. */
    private final Arrivals arrivals;
    private boolean isFollowed;

    /** By PERIOD, who would keep WISHES with it, as bits; it stands only while isWeighed does. */
    private final int[] keptBy;
    private boolean isWeighed;

    /** For what would be, so that no question makes rows of its own. */
    private final Arrivals triedArrivals;
    private final Diary triedDiary;

    public BeatDoubts() {
        delays = new int[MOST_BEATS];
        period = 10;
        window = 4;
        silence = NONE;
        watchers = new Watcher[MOST_WATCHERS];
        for (int w = 0; w < MOST_WATCHERS; w++) {
            watchers[w] = new Watcher();
        }
        sheets = new Sheet[MOST_SHEETS];
        for (int s = 0; s < MOST_SHEETS; s++) {
            sheets[s] = new Sheet();
        }
        arrivals = new Arrivals();
        keptBy = new int[GREATEST_PERIOD + 1];
        triedArrivals = new Arrivals();
        triedDiary = new Diary();
    }

    // ---- beats

    public int beat(int delay) {
        if (!isDelay(delay)) {
            return BAD;
        }
        if (beatCount >= MOST_BEATS) {
            return FULL;
        }
        addBeat(delay);
        return beatCount;
    }

    public int beats(int a, int d, int n) {
        if (!isWithin(a, 0, GREATEST_DELAY) || !isWithin(d, -GREATEST_DELAY, GREATEST_DELAY)
                || !isWithin(n, 1, MOST_BEATS)) {
            return BAD;
        }
        int added = Math.min(n, MOST_BEATS - beatCount);
        int next = a;
        for (int k = 0; k < added; k++) {
            addBeat(next);
            next = Math.floorMod(next + d, GREATEST_DELAY + 1);
        }
        return added;
    }

    public int delay(int n, int v) {
        if (!isWithin(n, 0, beatCount - 1) || !isDelay(v)) {
            return BAD;
        }
        int before = delays[n];
        delays[n] = v;
        forgetWhatFollowed();
        return before;
    }

    public int back() {
        if (beatCount == 0) {
            return NOT;
        }
        beatCount--;
        forgetWhatFollowed();
        return beatCount;
    }

    public int set(int what, int v) {
        int greatest = what == 0 ? GREATEST_PERIOD : GREATEST_WINDOW;
        if (!isWithin(what, 0, 1) || !isWithin(v, 1, greatest)) {
            return BAD;
        }
        forgetWhatFollowed();
        int before;
        if (what == 0) {
            before = period;
            period = v;
        } else {
            before = window;
            window = v;
        }
        return before;
    }

    public int silence(int t) {
        if (!isWithin(t, 0, LATEST_SILENCE) && t != NONE) {
            return BAD;
        }
        int before = silence;
        silence = t;
        forgetWhatFollowed();
        return before;
    }

    public int read(int s) {
        int refusal = refusalOfRow(s, LONGS);
        if (refusal != 0) {
            return refusal;
        }
        Sheet sheet = sheets[s];
        int added = 0;
        while (added < sheet.size && beatCount < MOST_BEATS && isDelay(sheet.longs[added])) {
            addBeat((int) sheet.longs[added]);
            added++;
        }
        return added;
    }

    public int came(int n, int what) {
        if (!isWithin(n, 0, beatCount - 1) || !isWithin(what, 0, 2)) {
            return BAD;
        }
        followArrivals();
        int time = arrivals.timeOfBeat[n];
        switch (what) {
            case 0:
                return time == NONE ? NONE : delays[n];
            case 1:
                return time;
            default:
                return arrivals.newsOfBeat[n];
        }
    }

    public int news(int i, int what) {
        followArrivals();
        if (!isWithin(i, 0, arrivals.newsCount - 1) || !isWithin(what, 0, 2)) {
            return BAD;
        }
        switch (what) {
            case 0:
                return arrivals.beatOfNews[i];
            case 1:
                return arrivals.timeOfNews[i];
            default:
                return arrivals.gapCountBy(i);
        }
    }

    public long expected(int i, int what) {
        followArrivals();
        if (!isWithin(i, 0, arrivals.newsCount - 1) || !isWithin(what, 0, 1)) {
            return asLong(BAD);
        }
        return inLowestTerms(arrivals.aboveBy[i], arrivals.belowBy[i], what);
    }

    public long score(int t, int what) {
        if (!isWithin(t, 0, LATEST_TIME) || !isWithin(what, 0, 1)) {
            return asLong(BAD);
        }
        followArrivals();
        int i = arrivals.latestAt(t);
        if (i == NONE || arrivals.gapCountBy(i) == 0) {
            return asLong(NOT);
        }
        int fewer = arrivals.countGapsBelow(i, t - arrivals.timeOfNews[i]);
        return inLowestTerms(fewer, arrivals.gapCountBy(i), what);
    }

    // ---- watchers

    public int watcher(int sort, int measure) {
        if (!isWithin(sort, BY_MARGIN, BY_LEARNING) || !isMeasure(sort, measure)) {
            return BAD;
        }
        if (watcherCount >= MOST_WATCHERS) {
            return FULL;
        }
        watchers[watcherCount].begin(sort, measure);
        watcherCount++;
        forgetWhatFollowed();
        return watcherCount - 1;
    }

    public int leaves() {
        if (watcherCount == 0) {
            return NOT;
        }
        watcherCount--;
        forgetWhatFollowed();
        return watcherCount;
    }

    public int measure(int w, int v) {
        if (!isWatcher(w) || !isMeasure(watchers[w].sort, v)) {
            return BAD;
        }
        int before = watchers[w].measure;
        watchers[w].measure = v;
        forgetWhatFollowed();
        return before;
    }

    public int wish(int w, int what, int v) {
        int greatest = what == 0 ? GREATEST_NOTICE : GREATEST_FEW;
        if (!isWatcher(w) || !isWithin(what, 0, 1) || (!isWithin(v, 0, greatest) && v != NONE)) {
            return BAD;
        }
        forgetWhatFollowed();
        Watcher watcher = watchers[w];
        int before;
        if (what == 0) {
            before = watcher.notice;
            watcher.notice = v;
        } else {
            before = watcher.few;
            watcher.few = v;
        }
        return before;
    }

    public int info(int w, int what) {
        if (!isWatcher(w) || !isWithin(what, 0, 9)) {
            return BAD;
        }
        followArrivals();
        Watcher watcher = watchers[w];
        Diary diary = watcher.diary;
        switch (what) {
            case 0:
                return watcher.sort;
            case 1:
                return watcher.measure;
            case 2:
                return watcher.notice;
            case 3:
                return watcher.few;
            case 4:
                return diary.mistakeCount;
            case 5:
                return diary.timeMistaken;
            case 6:
                return diary.longestMistake;
            case 7:
                return diary.lag;
            case 8:
                return watcher.keepsWishes(diary) ? 1 : 0;
            default:
                return diary.doubtForGood;
        }
    }

    public int ledger(int w, int k, int what) {
        if (!isWatcher(w) || !isWithin(what, 0, 2)) {
            return BAD;
        }
        followArrivals();
        Diary diary = watchers[w].diary;
        if (!isWithin(k, 0, diary.mistakeCount - 1)) {
            return BAD;
        }
        int i = diary.newsOfMistake[k];
        switch (what) {
            case 0:
                return diary.beginBy[i];
            case 1:
                return arrivals.timeOfNews[i + 1];
            default:
                return i;
        }
    }

    public int limit(int w, int i) {
        followArrivals();
        if (!isWatcher(w) || !isWithin(i, 0, arrivals.newsCount - 1)) {
            return BAD;
        }
        return watchers[w].diary.beginBy[i];
    }

    public int doubts(int t) {
        if (!isWithin(t, 0, LATEST_TIME)) {
            return BAD;
        }
        followArrivals();
        int i = arrivals.latestAt(t);
        if (i == NONE) {
            return 0;
        }
        int bits = 0;
        for (int w = 0; w < watcherCount; w++) {
            int begin = watchers[w].diary.beginBy[i];
            if (begin != NONE && begin <= t) {
                bits |= 1 << w;
            }
        }
        return bits;
    }

    public int noticed(int w) {
        if (!isWatcher(w)) {
            return BAD;
        }
        followArrivals();
        int begin = watchers[w].diary.doubtForGood;
        if (silence == NONE || begin == NONE) {
            return NONE;
        }
        return Math.max(begin - silence, 0);
    }

    // ---- what would do

    public int least(int sort, int m) {
        if (!isWithin(sort, BY_MARGIN, BY_TIME) || !isWithin(m, 0, GREATEST_FEW)) {
            return BAD;
        }
        followArrivals();
        for (int v = LEAST_MEASURES[sort]; v <= GREATEST_MEASURES[sort]; v++) {
            triedDiary.keep(arrivals, sort, v);
            if (triedDiary.mistakeCount <= m) {
                return v;
            }
        }
        return NONE;
    }

    public int longest(int w) {
        if (!isWatcher(w)) {
            return BAD;
        }
        weighPeriods();
        return longestKeptBy(1 << w);
    }

    public int shared() {
        weighPeriods();
        return longestKeptBy((1 << watcherCount) - 1);
    }

    public int saved() {
        int together = shared();
        if (together == NONE || watcherCount == 0) {
            return LEAST_INT;
        }
        int sent = 0;
        for (int w = 0; w < watcherCount; w++) {
            sent += sentWith(longest(w));
        }
        return sent - sentWith(together);
    }

    // ---- sheets

    public int sheet(int s, int form, int n) {
        if (!isSheet(s) || !isWithin(form, LONGS, DOUBLES) || n > MOST_ITEMS) {
            return BAD;
        }
        if (n < 0) {
            return find(SIZE);
        }
        sheets[s].begin(form, n);
        return n;
    }

    public int lose(int s) {
        if (!isSheet(s)) {
            return BAD;
        }
        if (sheets[s].isLost) {
            return find(NULL);
        }
        sheets[s].isLost = true;
        return sheets[s].size;
    }

    public int put(int s, int form, int i, int v) {
        if (!isWithin(form, LONGS, DOUBLES)) {
            return BAD;
        }
        int refusal = refusalOfRow(s, form);
        if (refusal != 0) {
            return refusal;
        }
        if (!sheets[s].hasItems(i, 1)) {
            return find(INDEX);
        }
        if (form == LONGS) {
            sheets[s].longs[i] = v;
        } else {
            sheets[s].putNumber(i, (double) v / 8.0);
        }
        return 1;
    }

    public long get(int s, int i) {
        if (!isSheet(s)) {
            return asLong(BAD);
        }
        Sheet sheet = sheets[s];
        if (sheet.isLost) {
            return asLong(find(NULL));
        }
        if (!sheet.hasItems(i, 1)) {
            return asLong(find(INDEX));
        }
        if (sheet.form == LONGS) {
            return sheet.longs[i];
        }
        return sheet.isNoNumber[i] ? asLong(NONE) : (long) (8.0 * sheet.doubles[i]);
    }

    public int copy(int s, int i, int t, int j, int n) {
        if (!isSheet(s) || !isSheet(t)) {
            return BAD;
        }
        Sheet from = sheets[s];
        Sheet to = sheets[t];
        if (from.isLost || to.isLost) {
            return find(NULL);
        }
        if (from.form != to.form) {
            return find(STORE);
        }
        if (!from.hasItems(i, n) || !to.hasItems(j, n)) {
            return find(INDEX);
        }
        to.takeItems(from, i, j, n);
        return 1;
    }

    public int write(int s) {
        int refusal = refusalOfRow(s, DOUBLES);
        if (refusal != 0) {
            return refusal;
        }
        followArrivals();
        Sheet sheet = sheets[s];
        int numbers = 0;
        for (int n = 0; n < Math.min(sheet.size, beatCount); n++) {
            int i = arrivals.newsOfBeat[n];
            if (i >= 1) {
                sheet.putNumber(n, arrivals.offOf(i));
                numbers++;
            } else {
                sheet.isNoNumber[n] = true;
            }
        }
        return numbers;
    }

    public int found(int s, int what, int v) {
        if (!isWithin(what, 0, 2)) {
            return BAD;
        }
        int refusal = refusalOfRow(s, DOUBLES);
        if (refusal != 0) {
            return refusal;
        }
        switch (what) {
            case 0:
                return sheets[s].countNoNumbers();
            case 1:
                return sheets[s].countAbove((double) v / 8.0);
            default:
                return sheets[s].countBelow((double) v / 8.0);
        }
    }

    public int count(int what) {
        followArrivals();
        switch (what) {
            case 0:
                return beatCount;
            case 1:
                return countLost();
            case 2:
                return arrivals.newsCount;
            case 3:
                return watcherCount;
            case 4:
                return countMistakes();
            case 5:
                return whoKeepsWishes();
            case 6:
                return arrivals.newsCount == 0 ? NONE : arrivals.timeOfNews[arrivals.newsCount - 1];
            case 7:
                return countDoubtsForGood();
            case 8:
                return latestFinding;
            default:
                return BAD;
        }
    }

    public long digest() {
        followArrivals();
        long h = 17L;
        for (int what = 0; what <= 7; what++) {
            h = mix(h, count(what));
        }
        h = mixBeats(h);
        h = mixNews(h);
        for (int w = 0; w < watcherCount; w++) {
            h = mixWatcher(h, w);
        }
        for (int t = 0; t <= 1000; t += 50) {
            h = mix(h, doubts(t));
            h = mix(h, score(t, 0));
            h = mix(h, score(t, 1));
        }
        for (int sort = BY_MARGIN; sort <= BY_TIME; sort++) {
            h = mix(h, least(sort, 0));
            h = mix(h, least(sort, 2));
        }
        h = mix(h, shared());
        return mix(h, saved());
    }

    // ---- what is told rightly

    private static boolean isWithin(long v, int from, int to) {
        return v >= from && v <= to;
    }

    private static boolean isDelay(long v) {
        return v == NONE || isWithin(v, 0, GREATEST_DELAY);
    }

    /** The SORT has been looked at already. */
    private static boolean isMeasure(int sort, int v) {
        return isWithin(v, LEAST_MEASURES[sort], GREATEST_MEASURES[sort]);
    }

    private boolean isWatcher(int w) {
        return isWithin(w, 0, watcherCount - 1);
    }

    private static boolean isSheet(int s) {
        return isWithin(s, 0, MOST_SHEETS - 1);
    }

    /** Why SHEET s can't be used as a row of a FORM: BAD, NULL or CAST; 0: it can. */
    private int refusalOfRow(int s, int form) {
        if (!isSheet(s)) {
            return BAD;
        }
        if (sheets[s].isLost) {
            return find(NULL);
        }
        return sheets[s].form == form ? 0 : find(CAST);
    }

    private int find(int finding) {
        latestFinding = finding;
        return -10 - finding;
    }

    private static long asLong(int refusal) {
        return LEAST_LONG - refusal;
    }

    // ---- what follows from what was told

    private void addBeat(int delay) {
        delays[beatCount] = delay;
        beatCount++;
        forgetWhatFollowed();
    }

    private void forgetWhatFollowed() {
        isFollowed = false;
        isWeighed = false;
    }

    private void followArrivals() {
        if (isFollowed) {
            return;
        }
        arrivals.follow(delays, beatCount, period, window, silence);
        for (int w = 0; w < watcherCount; w++) {
            watchers[w].diary.keep(arrivals, watchers[w].sort, watchers[w].measure);
        }
        isFollowed = true;
    }

    private void weighPeriods() {
        if (isWeighed) {
            return;
        }
        for (int p = 1; p <= GREATEST_PERIOD; p++) {
            triedArrivals.follow(delays, beatCount, p, window, silence);
            keptBy[p] = 0;
            for (int w = 0; w < watcherCount; w++) {
                Watcher watcher = watchers[w];
                triedDiary.keep(triedArrivals, watcher.sort, watcher.measure);
                if (watcher.keepsWishes(triedDiary)) {
                    keptBy[p] |= 1 << w;
                }
            }
        }
        isWeighed = true;
    }

    /** The greatest PERIOD with which all of these WATCHERS would keep their WISHES, or NONE. */
    private int longestKeptBy(int bits) {
        for (int p = GREATEST_PERIOD; p >= 1; p--) {
            if ((keptBy[p] & bits) == bits) {
                return p;
            }
        }
        return NONE;
    }

    /** The BEAT at time 0 is sent, too. */
    private static int sentWith(int eachPeriod) {
        return eachPeriod < 1 ? 0 : TIME_OF_SAVING / eachPeriod + 1;
    }

    private static long inLowestTerms(int above, int below, int what) {
        int divisor = greatestDivisor(above, below);
        int part = what == 0 ? above : below;
        return divisor == 0 ? part : part / divisor;
    }

    private static int greatestDivisor(int a, int b) {
        int greater = a;
        int less = b;
        // Euclid's rests halve at least at every second step, so 64 steps are enough for any int.
        for (int step = 0; step < 64 && less != 0; step++) {
            int rest = greater % less;
            greater = less;
            less = rest;
        }
        return greater;
    }

    // ---- counts

    private int countLost() {
        int lost = 0;
        for (int n = 0; n < beatCount; n++) {
            if (arrivals.timeOfBeat[n] == NONE) {
                lost++;
            }
        }
        return lost;
    }

    private int countMistakes() {
        int all = 0;
        for (int w = 0; w < watcherCount; w++) {
            all += watchers[w].diary.mistakeCount;
        }
        return all;
    }

    private int whoKeepsWishes() {
        int bits = 0;
        for (int w = 0; w < watcherCount; w++) {
            if (watchers[w].keepsWishes(watchers[w].diary)) {
                bits |= 1 << w;
            }
        }
        return bits;
    }

    private int countDoubtsForGood() {
        int all = 0;
        for (int w = 0; w < watcherCount; w++) {
            if (watchers[w].diary.doubtForGood != NONE) {
                all++;
            }
        }
        return all;
    }

    // ---- parts of the digest

    private static long mix(long h, long v) {
        return 31L * h + v;
    }

    private long mixBeats(long start) {
        long h = start;
        for (int n = 0; n < beatCount; n++) {
            for (int what = 0; what <= 2; what++) {
                h = mix(h, came(n, what));
            }
        }
        return h;
    }

    private long mixNews(long start) {
        long h = start;
        for (int i = 0; i < arrivals.newsCount; i++) {
            for (int what = 0; what <= 2; what++) {
                h = mix(h, news(i, what));
            }
            h = mix(h, expected(i, 0));
            h = mix(h, expected(i, 1));
        }
        return h;
    }

    private long mixWatcher(long start, int w) {
        long h = start;
        for (int what = 0; what <= 9; what++) {
            h = mix(h, info(w, what));
        }
        h = mix(h, noticed(w));
        h = mix(h, longest(w));
        for (int k = 0; k < watchers[w].diary.mistakeCount; k++) {
            for (int what = 0; what <= 2; what++) {
                h = mix(h, ledger(w, k, what));
            }
        }
        for (int i = 0; i < arrivals.newsCount; i++) {
            h = mix(h, limit(w, i));
        }
        return h;
    }

    /** When BEATS came with a PERIOD, which of them were NEWS, and when the next one is EXPECTED. */
    private static final class Arrivals {
        final int[] timeOfBeat;
        final int[] newsOfBeat;
        final int[] beatOfNews;
        final int[] timeOfNews;
        /** EXPECTED by NEWS i is aboveBy[i] by belowBy[i], and wholeBy[i] the next whole time. */
        final int[] aboveBy;
        final int[] belowBy;
        final int[] wholeBy;
        int newsCount;
        int period;
        int window;

        Arrivals() {
            timeOfBeat = new int[MOST_BEATS];
            newsOfBeat = new int[MOST_BEATS];
            beatOfNews = new int[MOST_BEATS];
            timeOfNews = new int[MOST_BEATS];
            aboveBy = new int[MOST_BEATS];
            belowBy = new int[MOST_BEATS];
            wholeBy = new int[MOST_BEATS];
        }

        void follow(int[] delays, int beatCount, int period, int window, int silence) {
            this.period = period;
            this.window = window;
            // One is NEWS unless a BEAT with a greater number came sooner: so from the last one down.
            int soonest = NEVER;
            for (int n = beatCount - 1; n >= 0; n--) {
                int sent = n * period;
                boolean isLost = delays[n] == NONE || (silence != NONE && sent >= silence);
                int time = isLost ? NONE : sent + delays[n];
                boolean isNews = !isLost && time <= soonest;
                timeOfBeat[n] = time;
                newsOfBeat[n] = isNews ? n : NONE;
                soonest = isNews ? time : soonest;
            }
            numberNews(beatCount);
            expectNext();
        }

        private void numberNews(int beatCount) {
            newsCount = 0;
            for (int n = 0; n < beatCount; n++) {
                if (newsOfBeat[n] != NONE) {
                    newsOfBeat[n] = newsCount;
                    beatOfNews[newsCount] = n;
                    timeOfNews[newsCount] = timeOfBeat[n];
                    newsCount++;
                }
            }
        }

        private void expectNext() {
            int late = 0;
            for (int i = 0; i < newsCount; i++) {
                late += timeOfNews[i] - beatOfNews[i] * period;
                int gone = i - window;
                if (gone >= 0) {
                    late -= timeOfNews[gone] - beatOfNews[gone] * period;
                }
                int below = Math.min(i + 1, window);
                int above = late + below * (beatOfNews[i] + 1) * period;
                aboveBy[i] = above;
                belowBy[i] = below;
                wholeBy[i] = below < 1 ? NEVER : (above + below - 1) / below;
            }
        }

        /** The NEWS that are the latest at time t, or NONE. */
        int latestAt(int t) {
            int latest = NONE;
            for (int i = 0; i < newsCount && timeOfNews[i] <= t; i++) {
                latest = i;
            }
            return latest;
        }

        int gapCountBy(int i) {
            return Math.min(i, window);
        }

        int countGapsBelow(int i, int length) {
            int fewer = 0;
            for (int k = i; k > i - gapCountBy(i); k--) {
                if (timeOfNews[k] - timeOfNews[k - 1] < length) {
                    fewer++;
                }
            }
            return fewer;
        }

        /** OFF of the BEAT that is NEWS i, not the first. */
        double offOf(int i) {
            int below = belowBy[i - 1];
            int above = timeOfNews[i] * below - aboveBy[i - 1];
            return below < 1 ? 0.0 : (double) above / (double) below;
        }
    }

    /** GAPS by one NEWS after the other, the least first. */
    private static final class RankedGaps {
        final int[] row;
        int size;

        RankedGaps() {
            row = new int[GREATEST_WINDOW];
        }

        /** From GAPS by the NEWS ahead of NEWS i to those by NEWS i. */
        void moveOnTo(int i, int[] timeOfNews, int window) {
            if (i == 0) {
                size = 0;
                return;
            }
            int gone = i - window;
            if (gone >= 1) {
                takeOut(timeOfNews[gone] - timeOfNews[gone - 1]);
            }
            takeIn(timeOfNews[i] - timeOfNews[i - 1]);
        }

        private void takeOut(int gap) {
            int at = 0;
            while (at < size && row[at] != gap) {
                at++;
            }
            if (at >= size) {
                return;
            }
            for (int k = at + 1; k < size; k++) {
                row[k - 1] = row[k];
            }
            size--;
        }

        private void takeIn(int gap) {
            if (size >= row.length) {
                return;
            }
            int at = size;
            while (at > 0 && row[at - 1] > gap) {
                row[at] = row[at - 1];
                at--;
            }
            row[at] = gap;
            size++;
        }

        /** The least length that is above so many tenths of GAPS, or NONE if there are none. */
        int lengthAbove(int tenths) {
            int needed = (tenths * size + 9) / 10;
            return needed >= 1 && needed <= size ? row[needed - 1] + 1 : NONE;
        }
    }

    /** What a WATCHER of a SORT, with a MEASURE, makes of all NEWS. */
    private static final class Diary {
        /** By NEWS, when DOUBT would begin, were there none behind it; NONE: there is no LIMIT. */
        final int[] beginBy;
        final int[] newsOfMistake;
        final RankedGaps gaps;
        int mistakeCount;
        int timeMistaken;
        int longestMistake;
        int lag;
        int doubtForGood;

        Diary() {
            beginBy = new int[MOST_BEATS];
            newsOfMistake = new int[MOST_BEATS];
            gaps = new RankedGaps();
        }

        void keep(Arrivals arrivals, int sort, int measure) {
            mistakeCount = 0;
            timeMistaken = 0;
            longestMistake = 0;
            lag = NONE;
            doubtForGood = NONE;
            for (int i = 0; i < arrivals.newsCount; i++) {
                if (sort == BY_SHARE) {
                    gaps.moveOnTo(i, arrivals.timeOfNews, arrivals.window);
                }
                int begin = beginOfDoubt(arrivals, i, sort, measure);
                beginBy[i] = begin;
                if (begin != NONE) {
                    lag = Math.max(lag, begin - arrivals.beatOfNews[i] * arrivals.period);
                    noteDoubt(arrivals, i, begin);
                }
            }
        }

        private int beginOfDoubt(Arrivals arrivals, int i, int sort, int measure) {
            int time = arrivals.timeOfNews[i];
            switch (sort) {
                case BY_MARGIN:
                    return Math.max(time, arrivals.wholeBy[i] + measure);
                case BY_SHARE:
                    int length = gaps.lengthAbove(measure);
                    return length == NONE ? NONE : time + length;
                case BY_TIME:
                    return time + measure;
                default:
                    return Math.max(time, arrivals.wholeBy[i] + measure * (mistakeCount + 1));
            }
        }

        private void noteDoubt(Arrivals arrivals, int i, int begin) {
            if (i + 1 >= arrivals.newsCount) {
                doubtForGood = begin;
                return;
            }
            int lasted = arrivals.timeOfNews[i + 1] - begin;
            if (lasted > 0) {
                newsOfMistake[mistakeCount] = i;
                mistakeCount++;
                timeMistaken += lasted;
                longestMistake = Math.max(longestMistake, lasted);
            }
        }
    }

    private static final class Watcher {
        int sort;
        int measure;
        int notice;
        int few;
        final Diary diary;

        Watcher() {
            diary = new Diary();
        }

        void begin(int sort, int measure) {
            this.sort = sort;
            this.measure = measure;
            notice = NONE;
            few = NONE;
        }

        /** Without a LAG, NOTICE holds: NONE is less than any. */
        boolean keepsWishes(Diary kept) {
            return (notice == NONE || kept.lag <= notice) && (few == NONE || kept.mistakeCount <= few);
        }
    }

    /** A row of a FORM. Which doubles are no numbers is told beside them: no double here is NaN. */
    private static final class Sheet {
        boolean isLost;
        int form;
        int size;
        final long[] longs;
        final double[] doubles;
        final boolean[] isNoNumber;

        Sheet() {
            isLost = true;
            longs = new long[MOST_ITEMS];
            doubles = new double[MOST_ITEMS];
            isNoNumber = new boolean[MOST_ITEMS];
        }

        void begin(int form, int size) {
            isLost = false;
            this.form = form;
            this.size = size;
            for (int i = 0; i < size; i++) {
                longs[i] = 0L;
                putNumber(i, 0.0);
            }
        }

        /** Said so that no sum runs over, whatever the numbers are. */
        boolean hasItems(int i, int n) {
            return i >= 0 && n >= 0 && i <= size && n <= size - i;
        }

        void putNumber(int i, double v) {
            doubles[i] = v;
            isNoNumber[i] = false;
        }

        /** From may be this SHEET: items then move in the order in which none is lost. */
        void takeItems(Sheet from, int i, int j, int n) {
            for (int k = 0; k < n; k++) {
                int step = i >= j ? k : n - 1 - k;
                longs[j + step] = from.longs[i + step];
                doubles[j + step] = from.doubles[i + step];
                isNoNumber[j + step] = from.isNoNumber[i + step];
            }
        }

        int countNoNumbers() {
            int all = 0;
            for (int i = 0; i < size; i++) {
                if (isNoNumber[i]) {
                    all++;
                }
            }
            return all;
        }

        int countAbove(double v) {
            int all = 0;
            for (int i = 0; i < size; i++) {
                if (!isNoNumber[i] && doubles[i] > v) {
                    all++;
                }
            }
            return all;
        }

        int countBelow(double v) {
            int all = 0;
            for (int i = 0; i < size; i++) {
                if (!isNoNumber[i] && doubles[i] < v) {
                    all++;
                }
            }
            return all;
        }
    }
}
