/** The edges that promises 13 to 21 name: each run bears the promise and the words that it holds to. */
public final class WatchersEdgesTest {
    private static final Runs RUNS = new Runs();
    /** One of each SORT over three NEWS, at 0, 10 and 35: the GAPS are 10 and 25. */
    private static final String FOUR = """
            beat(0) = 1; beat(0) = 2; beat(15) = 3
            watcher(0, 2) = 0; watcher(1, 10) = 1; watcher(2, 24) = 2; watcher(3, 30) = 3
            """;

    public static void main(String[] args) throws Exception {
        watcher();
        leaves();
        measure();
        wish();
        info();
        infoOfMistakes();
        infoOfLagAndDoubt();
        ledger();
        limit();
        doubts();
        noticed();
        RUNS.end("WatchersEdgesTest");
    }

    private static void watcher() throws Exception {
        RUNS.of("13 a WATCHER more: its number", """
                watcher(0, 0) = 0; watcher(0, 0) = 1; watcher(0, 0) = 2; watcher(0, 0) = 3; watcher(0, 0) = 4; count(3) = 5
                """);
        RUNS.of("13 BAD: the SORT", """
                watcher(-1, 1) = BAD; watcher(4, 1) = BAD; watcher(MIN, 1) = BAD; watcher(MAX, 1) = BAD; count(3) = 0
                watcher(3, 1) = 0; info(0, 0) = 3; watcher(0, 1) = 1; info(1, 0) = 0
                """);
        RUNS.of("13 BAD: the MEASURE, just outside", """
                watcher(0, -1) = BAD; watcher(0, 100) = BAD; watcher(1, 0) = BAD; watcher(1, 11) = BAD; watcher(2, 0) = BAD
                watcher(2, 201) = BAD; watcher(3, -1) = BAD; watcher(3, 31) = BAD; count(3) = 0
                """);
        RUNS.of("13 BAD: the MEASURE, far outside", """
                watcher(0, MIN) = BAD; watcher(0, MAX) = BAD; watcher(1, MIN) = BAD; watcher(1, MAX) = BAD; watcher(2, MIN) = BAD
                watcher(2, MAX) = BAD; watcher(3, MIN) = BAD; watcher(3, MAX) = BAD; watcher(2, NONE) = BAD; count(3) = 0
                """);
        RUNS.of("13 the MEASURE, just inside", """
                watcher(0, 0) = 0; watcher(0, 99) = 1; watcher(1, 1) = 2; watcher(1, 10) = 3; watcher(2, 1) = 4; leaves() = 4
                watcher(2, 200) = 4; leaves() = 4; watcher(3, 0) = 4; leaves() = 4; watcher(3, 30) = 4; info(4, 1) = 30
                """);
        RUNS.of("13 FULL", """
                watcher(0, 0) = 0; watcher(0, 1) = 1; watcher(0, 2) = 2; watcher(0, 3) = 3; watcher(0, 4) = 4; watcher(0, 5) = FULL
                count(3) = 5; info(4, 1) = 4; leaves() = 4; watcher(0, 5) = 4; info(4, 1) = 5; watcher(0, 6) = FULL
                """);
        RUNS.of("13 BAD; FULL", """
                watcher(0, 0) = 0; watcher(0, 1) = 1; watcher(0, 2) = 2; watcher(0, 3) = 3; watcher(0, 4) = 4
                watcher(4, 0) = BAD; watcher(-1, 0) = BAD; watcher(0, 100) = BAD; watcher(1, 0) = BAD; watcher(1, 1) = FULL
                """);
    }

    private static void leaves() throws Exception {
        RUNS.of("14 the last WATCHER is gone: how many are left", """
                watcher(0, 5) = 0; watcher(2, 6) = 1; leaves() = 1; info(0, 1) = 5; info(1, 1) = BAD; count(3) = 1
                """);
        RUNS.of("14 NOT: there is none", """
                leaves() = NOT; watcher(0, 5) = 0; leaves() = 0; leaves() = NOT; count(3) = 0; info(0, 0) = BAD
                """);
        RUNS.of("14 with its WISHES", """
                watcher(0, 5) = 0; wish(0, 0, 7) = NONE; wish(0, 1, 8) = NONE; leaves() = 0; watcher(0, 5) = 0
                info(0, 2) = NONE; info(0, 3) = NONE
                """);
    }

    private static void measure() throws Exception {
        RUNS.of("15 what it was", FOUR + """
                measure(0, 0) = 2; measure(0, 99) = 0; measure(0, 98) = 99; measure(1, 1) = 10; measure(1, 10) = 1
                measure(2, 1) = 24; measure(2, 200) = 1; measure(3, 0) = 30; measure(3, 30) = 0; measure(2, 5) = 200
                """);
        RUNS.of("15 BAD: the WATCHER", """
                measure(0, 1) = BAD; watcher(0, 5) = 0; measure(1, 1) = BAD; measure(-1, 1) = BAD; measure(MIN, 1) = BAD
                measure(MAX, 1) = BAD; measure(5, 1) = BAD; info(0, 1) = 5; leaves() = 0; measure(0, 1) = BAD
                """);
        RUNS.of("15 BAD: the MEASURE, by SORT", FOUR + """
                measure(0, -1) = BAD; measure(0, 100) = BAD; measure(1, 0) = BAD; measure(1, 11) = BAD; measure(2, 0) = BAD
                measure(2, 201) = BAD; measure(3, -1) = BAD; measure(3, 31) = BAD; measure(0, MIN) = BAD; measure(1, MAX) = BAD
                measure(2, MIN) = BAD; measure(3, MAX) = BAD; info(0, 1) = 2; info(1, 1) = 10; info(2, 1) = 24; info(3, 1) = 30
                """);
    }

    private static void wish() throws Exception {
        RUNS.of("16 NOTICE (what = 0)", FOUR + """
                wish(0, 0, 0) = NONE; info(0, 2) = 0; wish(0, 0, 500) = 0; info(0, 2) = 500; info(0, 3) = NONE; info(1, 2) = NONE
                """);
        RUNS.of("16 FEW (1)", FOUR + """
                wish(3, 1, 0) = NONE; info(3, 3) = 0; wish(3, 1, 40) = 0; info(3, 3) = 40; info(3, 2) = NONE; info(2, 3) = NONE
                """);
        RUNS.of("16 or (NONE) none: what it was", FOUR + """
                wish(0, 0, NONE) = NONE; wish(0, 0, 3) = NONE; wish(0, 0, NONE) = 3; info(0, 2) = NONE
                wish(0, 1, NONE) = NONE; wish(0, 1, 4) = NONE; wish(0, 1, NONE) = 4; info(0, 3) = NONE
                """);
        RUNS.of("16 BAD", FOUR + """
                wish(4, 0, 1) = BAD; wish(-1, 0, 1) = BAD; wish(MIN, 0, 1) = BAD; wish(MAX, 1, 1) = BAD
                wish(0, -1, 1) = BAD; wish(0, 2, 1) = BAD; wish(0, MIN, NONE) = BAD; wish(0, MAX, NONE) = BAD
                wish(0, 0, -2) = BAD; wish(0, 0, 501) = BAD; wish(0, 0, MIN) = BAD; wish(0, 0, MAX) = BAD
                wish(0, 1, -2) = BAD; wish(0, 1, 41) = BAD; wish(0, 1, MIN) = BAD; wish(0, 1, MAX) = BAD
                info(0, 2) = NONE; info(0, 3) = NONE; wish(0, 0, 41) = NONE; info(0, 2) = 41
                """);
        RUNS.of("16 BAD: without WATCHERS", "wish(0, 0, 1) = BAD; wish(0, 1, NONE) = BAD");
    }

    private static void info() throws Exception {
        RUNS.of("17 SORT (what = 0), MEASURE (1), NOTICE (2), FEW (3)", FOUR + """
                info(0, 0) = 0; info(0, 1) = 2; info(0, 2) = NONE; info(0, 3) = NONE; info(3, 0) = 3; info(3, 1) = 30
                info(1, 0) = 1; info(2, 0) = 2; info(3, 2) = NONE; info(3, 3) = NONE
                """);
        RUNS.of("17 BAD", FOUR + """
                info(4, 0) = BAD; info(-1, 0) = BAD; info(MIN, 0) = BAD; info(MAX, 0) = BAD; info(0, -1) = BAD; info(0, 10) = BAD
                info(0, MIN) = BAD; info(0, MAX) = BAD; info(4, 10) = BAD; info(3, 9) = 65; info(0, 0) = 0
                """);
        RUNS.of("17 BAD: without WATCHERS", "info(0, 0) = BAD; info(0, 9) = BAD");
        // Two MISTAKES, [2, 10) and [12, 20), and LAG 2: both WISHES at their edges.
        RUNS.of("17 whether WISHES are KEPT (8: 1, 0)", """
                beats(0, 0, 3) = 3; watcher(2, 2) = 0; info(0, 8) = 1; wish(0, 1, 2) = NONE; info(0, 8) = 1; wish(0, 1, 1) = 2
                info(0, 8) = 0; wish(0, 1, 2) = 1; wish(0, 0, 2) = NONE; info(0, 8) = 1; wish(0, 0, 1) = 2; info(0, 8) = 0
                """);
    }

    private static void infoOfMistakes() throws Exception {
        // EXPECTED and 2: 12, 22; the last NEWS come at 35.
        RUNS.of("17 how many MISTAKES (4), how long these were together (5), the longest (6)", FOUR + """
                info(0, 4) = 1; info(0, 5) = 13; info(0, 6) = 13; info(1, 4) = 1; info(1, 5) = 14; info(1, 6) = 14
                info(2, 4) = 1; info(2, 5) = 1; info(2, 6) = 1; info(3, 4) = 0; info(3, 5) = 0; info(3, 6) = 0
                """);
        RUNS.of("17 none", """
                watcher(2, 25) = 0; info(0, 4) = 0; info(0, 5) = 0; info(0, 6) = 0; beat(0) = 1; info(0, 4) = 0; info(0, 5) = 0
                info(0, 6) = 0; beat(15) = 2; info(0, 4) = 0; info(0, 6) = 0; delay(1, 16) = 15; info(0, 4) = 1; info(0, 6) = 1
                """);
        // MISTAKES of 7, 19 and 5 times: the longest is neither the first nor the last.
        RUNS.of("17 the longest (6)", """
                watcher(2, 5) = 0; beat(0) = 1; beat(2) = 2; beat(16) = 3; beat(16) = 4
                info(0, 4) = 3; info(0, 5) = 31; info(0, 6) = 19
                delay(2, 0) = 16; info(0, 4) = 3; info(0, 5) = 31; info(0, 6) = 21     # 7, 3, 21
                delay(3, 0) = 16; info(0, 4) = 3; info(0, 5) = 15; info(0, 6) = 7      # 7, 3, 5
                measure(0, 12) = 5; info(0, 4) = 0; info(0, 5) = 0; info(0, 6) = 0
                """);
        RUNS.of("17 the most MISTAKES", """
                watcher(2, 1) = 0; beats(0, 0, 40) = 40; info(0, 4) = 39; info(0, 5) = 351; info(0, 6) = 9; info(0, 9) = 391
                """);
    }

    private static void infoOfLagAndDoubt() throws Exception {
        RUNS.of("17 LAG (7; NONE)", """
                watcher(0, 0) = 0; watcher(1, 1) = 1; info(0, 7) = NONE; beat(NONE) = 1; info(0, 7) = NONE; delay(0, 5) = NONE
                info(0, 7) = 15; info(1, 7) = NONE; beat(5) = 2; info(1, 7) = 16; silence(0) = NONE; info(0, 7) = NONE
                """);
        RUNS.of("17 when it began to doubt for good (9; NONE: it does not)", """
                watcher(0, 0) = 0; watcher(1, 1) = 1; info(0, 9) = NONE; beat(NONE) = 1; info(0, 9) = NONE; delay(0, 5) = NONE
                info(0, 9) = 15; info(1, 9) = NONE; beat(5) = 2; info(0, 9) = 25; info(1, 9) = 26; silence(10) = NONE
                info(0, 9) = 15; info(1, 9) = NONE; silence(0) = 10; info(0, 9) = NONE
                """);
    }

    private static void ledger() throws Exception {
        RUNS.of("18 when DOUBT began (what = 0), ended (1), by which NEWS it began (2)", FOUR + """
                ledger(0, 0, 0) = 22; ledger(0, 0, 1) = 35; ledger(0, 0, 2) = 1; ledger(1, 0, 0) = 21; ledger(1, 0, 1) = 35
                ledger(1, 0, 2) = 1; ledger(2, 0, 0) = 34; ledger(2, 0, 1) = 35; ledger(2, 0, 2) = 1
                """);
        RUNS.of("18 BAD", FOUR + """
                ledger(4, 0, 0) = BAD; ledger(-1, 0, 0) = BAD; ledger(MIN, 0, 0) = BAD; ledger(MAX, 0, 0) = BAD
                ledger(0, -1, 0) = BAD; ledger(0, 1, 0) = BAD; ledger(0, MIN, 0) = BAD; ledger(0, MAX, 0) = BAD
                ledger(0, 0, -1) = BAD; ledger(0, 0, 3) = BAD; ledger(0, 0, MIN) = BAD; ledger(0, 0, MAX) = BAD
                ledger(3, 0, 0) = BAD; ledger(3, -1, 0) = BAD
                """);
        RUNS.of("18 BAD: DOUBT that never ends is no MISTAKE", "beat(0) = 1; watcher(2, 1) = 0; info(0, 9) = 1; ledger(0, 0, 0) = BAD");
        RUNS.of("18 the last of the most MISTAKES", """
                watcher(2, 1) = 0; beats(0, 0, 40) = 40; ledger(0, 38, 0) = 381; ledger(0, 38, 1) = 390; ledger(0, 38, 2) = 38
                ledger(0, 39, 0) = BAD; ledger(0, 0, 0) = 1; ledger(0, 0, 2) = 0; back() = 39; ledger(0, 38, 0) = BAD
                """);
    }

    private static void limit() throws Exception {
        RUNS.of("19 when DOUBT would begin, were there none behind it", FOUR + """
                limit(2, 0) = 24; limit(2, 1) = 34; limit(2, 2) = 59; limit(3, 0) = 40; limit(3, 2) = 65
                """);
        RUNS.of("19 NONE: there is no LIMIT", FOUR + "limit(1, 0) = NONE; limit(1, 1) = 21; limit(0, 0) = 12");
        RUNS.of("19 BAD", FOUR + """
                limit(4, 0) = BAD; limit(-1, 0) = BAD; limit(MIN, 0) = BAD; limit(MAX, 0) = BAD; limit(0, -1) = BAD; limit(0, 3) = BAD
                limit(0, MIN) = BAD; limit(0, MAX) = BAD; limit(1, -1) = BAD; limit(1, 3) = BAD; silence(20) = NONE; limit(0, 2) = BAD
                limit(0, 1) = 22; silence(0) = 20; limit(0, 0) = BAD
                """);
        RUNS.of("19 BAD: without NEWS, without WATCHERS", "limit(0, 0) = BAD; beat(0) = 1; limit(0, 0) = BAD; watcher(0, 0) = 0; limit(0, 0) = 10");
    }

    private static void doubts() throws Exception {
        RUNS.of("20 a time (0 to 6000)", """
                doubts(-1) = BAD; doubts(6001) = BAD; doubts(MIN) = BAD; doubts(MAX) = BAD; doubts(0) = 0; doubts(6000) = 0
                beat(0) = 1; watcher(2, 1) = 0; doubts(0) = 0; doubts(6000) = 1; doubts(6001) = BAD; doubts(-1) = BAD
                """);
        RUNS.of("20 as bits", """
                beat(0) = 1; watcher(2, 1) = 0; watcher(2, 2) = 1; watcher(2, 3) = 2; watcher(2, 4) = 3; watcher(2, 5) = 4
                doubts(0) = 0; doubts(1) = 1; doubts(2) = 3; doubts(3) = 7; doubts(4) = 15; doubts(5) = 31; doubts(6000) = 31
                measure(0, 200) = 1; doubts(5) = 30; doubts(199) = 30; doubts(200) = 31; leaves() = 4; doubts(5) = 14
                """);
        RUNS.of("20 who has no LIMIT does not doubt", "beat(0) = 1; watcher(1, 1) = 0; watcher(2, 1) = 1; doubts(6000) = 2");
    }

    private static void noticed() throws Exception {
        RUNS.of("21 when a WATCHER began to doubt for good, less SILENCE", """
                beat(0) = 1; watcher(2, 200) = 0; silence(1) = NONE; noticed(0) = 199; silence(150) = 1; noticed(0) = 50
                """);
        RUNS.of("21 NONE: there is no SILENCE", "beat(0) = 1; watcher(2, 9) = 0; info(0, 9) = 9; noticed(0) = NONE");
        RUNS.of("21 or it does not", """
                watcher(2, 9) = 0; watcher(1, 1) = 1; silence(5) = NONE; noticed(0) = NONE; beat(0) = 1; noticed(0) = 4
                noticed(1) = NONE; silence(0) = 5; noticed(0) = NONE
                """);
        RUNS.of("21 0, if it began ahead of it", """
                beat(0) = 1; watcher(2, 9) = 0; silence(8) = NONE; noticed(0) = 1; silence(9) = 8; noticed(0) = 0
                silence(10) = 9; noticed(0) = 0; silence(5000) = 10; noticed(0) = 0
                """);
        RUNS.of("21 BAD", """
                noticed(0) = BAD; watcher(2, 9) = 0; noticed(1) = BAD; noticed(-1) = BAD; noticed(MIN) = BAD; noticed(MAX) = BAD
                silence(3) = NONE; noticed(1) = BAD; leaves() = 0; noticed(0) = BAD
                """);
    }
}
