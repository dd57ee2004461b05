/** The edges that promises 22 to 25, and the words on what would do, name: each run bears its words. */
public final class WouldDoEdgesTest {
    private static final Runs RUNS = new Runs();
    /** Who doubts without a margin lags by PERIOD, so that LONGEST is NOTICE. */
    private static final String TWO = """
            beats(0, 0, 2) = 2; watcher(0, 0) = 0; watcher(0, 0) = 1
            """;

    public static void main(String[] args) throws Exception {
        least();
        leastByMargin();
        leastByShare();
        leastByTime();
        longest();
        longestWithSilence();
        shared();
        saved();
        RUNS.end("WouldDoEdgesTest");
    }

    private static void least() throws Exception {
        RUNS.of("22 BAD (m 0 to 40)", """
                least(0, -1) = BAD; least(0, 41) = BAD; least(0, MIN) = BAD; least(0, MAX) = BAD; least(0, NONE) = BAD
                least(0, 0) = 0; least(0, 40) = 0; least(1, 40) = 1; least(2, 40) = 1
                """);
        RUNS.of("22 LEAST of a SORT 0 to 2", """
                least(-1, 0) = BAD; least(3, 0) = BAD; least(MIN, 0) = BAD; least(MAX, 0) = BAD; least(3, 40) = BAD
                least(0, 0) = 0; least(1, 0) = 1; least(2, 0) = 1
                """);
        // Forty NEWS, each 11 behind the one ahead of it: without a margin there are 39 MISTAKES.
        RUNS.of("22 m MISTAKES at most", """
                set(1, 1) = 4; beats(0, 1, 40) = 40; least(0, 40) = 0; least(0, 39) = 0; least(0, 38) = 1; least(0, 0) = 1
                least(2, 39) = 1; least(2, 38) = 11; least(2, 0) = 11
                """);
        RUNS.of("22 a new WATCHER: none is made", """
                beats(0, 0, 3) = 3; watcher(2, 3) = 0; least(2, 0) = 10; count(3) = 1; info(0, 1) = 3; count(4) = 2
                """);
        RUNS.of("22 a new WATCHER: there need be no room for it", """
                beats(0, 0, 3) = 3; watcher(2, 3) = 0; watcher(2, 3) = 1; watcher(2, 3) = 2; watcher(2, 3) = 3; watcher(2, 3) = 4
                least(2, 0) = 10; least(2, 1) = 10; least(2, 2) = 1; count(3) = 5
                """);
    }

    private static void leastByMargin() throws Exception {
        // The second NEWS are EXPECTED at 10.
        RUNS.of("22 the least MEASURE of those it may have, SORT 0", """
                beat(0) = 1; beat(0) = 2; least(0, 0) = 0; delay(1, 1) = 0; least(0, 0) = 1; delay(1, 98) = 1; least(0, 0) = 98
                delay(1, 99) = 98; least(0, 0) = 99
                """);
        RUNS.of("22 NONE: none would do, SORT 0", """
                beat(0) = 1; beat(NONE) = 2; beat(89) = 3; least(0, 0) = 99; delay(2, 90) = 89; least(0, 0) = NONE; least(0, 1) = 0
                """);
    }

    private static void leastByShare() throws Exception {
        RUNS.of("22 the least MEASURE of those it may have, SORT 1", """
                least(1, 0) = 1; beat(0) = 1; least(1, 0) = 1; beat(99) = 2; least(1, 0) = 1
                """);
        // Ten GAPS of 11 to 20; then one of 20, 21, 22.
        RUNS.of("22 the least MEASURE of those it may have, SORT 1, the greatest of them", "set(1, 10) = 4\n"
                + TermsEdgesTest.RISING + "beat(65) = 12; least(1, 0) = 9; delay(11, 66) = 65; least(1, 0) = 10");
        RUNS.of("22 NONE: none would do, SORT 1", "set(1, 10) = 4\n"
                + TermsEdgesTest.RISING + "beat(67) = 12; least(1, 0) = NONE; least(1, 1) = 9");
    }

    private static void leastByTime() throws Exception {
        RUNS.of("22 the least MEASURE of those it may have, SORT 2", """
                set(0, 50) = 10; beat(0) = 1; beat(NONE) = 2; beat(NONE) = 3; beat(49) = 4; least(2, 0) = 199
                delay(3, 50) = 49; least(2, 0) = 200
                """);
        RUNS.of("22 the least MEASURE of those it may have, SORT 2, the least of them", """
                set(0, 1) = 10; beat(1) = 1; beat(0) = 2; least(2, 0) = 1; delay(0, 0) = 1; least(2, 0) = 1; delay(1, 1) = 0
                least(2, 0) = 2
                """);
        RUNS.of("22 NONE: none would do, SORT 2", """
                set(0, 50) = 10; beat(0) = 1; beat(NONE) = 2; beat(NONE) = 3; beat(51) = 4; least(2, 0) = NONE; least(2, 1) = 1
                """);
    }

    private static void longest() throws Exception {
        RUNS.of("23 the greatest PERIOD (1 to 50)", TWO + """
                longest(0) = 50; wish(0, 0, 51) = NONE; longest(0) = 50; wish(0, 0, 50) = 51; longest(0) = 50
                wish(0, 0, 49) = 50; longest(0) = 49; wish(0, 0, 2) = 49; longest(0) = 2; wish(0, 0, 1) = 2; longest(0) = 1
                """);
        RUNS.of("23 NONE", TWO + "wish(0, 0, 0) = NONE; longest(0) = NONE; longest(1) = 50; wish(0, 0, 1) = 0; longest(0) = 1");
        RUNS.of("23 BAD", """
                longest(0) = BAD; watcher(0, 0) = 0; longest(1) = BAD; longest(-1) = BAD; longest(MIN) = BAD; longest(MAX) = BAD
                longest(0) = 50; watcher(0, 0) = 1; watcher(0, 0) = 2; watcher(0, 0) = 3; watcher(0, 0) = 4; longest(4) = 50
                longest(5) = BAD; leaves() = 4; longest(4) = BAD
                """);
        RUNS.of("23 in place of what it is", TWO + """
                wish(0, 0, 30) = NONE; set(0, 50) = 10; longest(0) = 30; set(0, 1) = 50; longest(0) = 30; set(0, 7) = 1; came(1, 1) = 7
                """);
        // Behind 20 times: one MISTAKE as soon as the next one comes later than that.
        RUNS.of("23 DELAYS, what is LOST as they are", """
                beat(0) = 1; beat(5) = 2; watcher(2, 20) = 0; wish(0, 1, 0) = NONE; longest(0) = 15; delay(1, 19) = 5; longest(0) = 1
                delay(1, 20) = 19; longest(0) = NONE; delay(1, NONE) = 20; longest(0) = 50; beat(0) = 3; longest(0) = 10
                """);
        RUNS.of("23 without NEWS, without a LAG", """
                watcher(0, 99) = 0; wish(0, 0, 0) = NONE; wish(0, 1, 0) = NONE; longest(0) = 50; watcher(1, 1) = 1
                wish(1, 0, 0) = NONE; beat(0) = 1; longest(0) = NONE; longest(1) = 50; beat(0) = 2; longest(1) = NONE
                """);
    }

    private static void longestWithSilence() throws Exception {
        // Behind 4 times, FEW 0: PERIODS up to 4, and those with which the second BEAT is not sent.
        String silent = "beats(0, 0, 2) = 2; watcher(2, 4) = 0; wish(0, 1, 0) = NONE\n";
        RUNS.of("23 SILENCE as it is", silent + """
                longest(0) = 4; silence(50) = NONE; longest(0) = 50; silence(51) = 50; longest(0) = 4; silence(5) = 51
                longest(0) = 50; silence(0) = 5; longest(0) = 50
                """);
        RUNS.of("23 the greatest, though lesser ones would not do", silent + """
                watcher(0, 0) = 1; wish(1, 0, 49) = NONE; silence(49) = NONE; longest(0) = 50; longest(1) = 49; shared() = 49
                silence(50) = 49; longest(0) = 50; longest(1) = 49; shared() = 4
                """);
    }

    private static void shared() throws Exception {
        RUNS.of("24 by which those of all WATCHERS were", TWO + """
                shared() = 50; wish(0, 0, 30) = NONE; shared() = 30; wish(1, 0, 29) = NONE; shared() = 29; wish(1, 0, 31) = 29
                shared() = 30; wish(1, 0, 1) = 31; shared() = 1
                """);
        RUNS.of("24 NONE", TWO + "wish(0, 0, 0) = NONE; shared() = NONE; wish(0, 0, 1) = 0; shared() = 1");
        // Each has its own PERIOD, and there is none with which both are content.
        RUNS.of("24 NONE, though each has one", """
                beats(0, 0, 2) = 2; silence(50) = NONE; watcher(2, 4) = 0; wish(0, 1, 0) = NONE; watcher(0, 5) = 1
                wish(1, 0, 9) = NONE; longest(0) = 50; longest(1) = 4; shared() = 4; measure(0, 1) = 4; shared() = 1
                beat(0) = 3; delay(1, NONE) = 0; longest(0) = 50; longest(1) = 4; shared() = NONE; saved() = MIN
                """);
        RUNS.of("24 (50, if there are no WATCHERS)", """
                shared() = 50; beats(0, 0, 40) = 40; shared() = 50; set(0, 3) = 10; shared() = 50; watcher(0, 0) = 0
                wish(0, 0, 0) = NONE; shared() = NONE; leaves() = 0; shared() = 50
                """);
        RUNS.of("24 of all five", """
                beats(0, 0, 2) = 2; watcher(0, 0) = 0; watcher(0, 0) = 1; watcher(0, 0) = 2; watcher(0, 0) = 3; watcher(0, 0) = 4
                wish(4, 0, 17) = NONE; shared() = 17; wish(0, 0, 16) = NONE; shared() = 16; leaves() = 4; shared() = 16
                wish(0, 0, NONE) = 16; shared() = 50
                """);
    }

    private static void saved() throws Exception {
        // Of two, what is saved is what the one with the longer PERIOD would send.
        RUNS.of("25 up to time 1000 (at it, too)", TWO + """
                saved() = 21; wish(0, 0, 40) = NONE; wish(1, 0, 40) = NONE; saved() = 26; wish(0, 0, 41) = 40; saved() = 25
                wish(0, 0, 39) = 41; saved() = 26; wish(1, 0, 39) = 40; saved() = 26; wish(0, 0, 3) = 39; wish(1, 0, 3) = 39
                saved() = 334; wish(0, 0, 1) = 3; wish(1, 0, 1) = 3; saved() = 1001; wish(0, 0, 2) = 1; saved() = 501
                """);
        RUNS.of("25 with its LONGEST, less those by SHARED", TWO + """
                wish(0, 0, 10) = NONE; longest(0) = 10; longest(1) = 50; shared() = 10; saved() = 21; leaves() = 1; saved() = 0
                """);
        RUNS.of("25 (SILENCE is not looked at)", TWO + """
                wish(0, 0, 40) = NONE; wish(1, 0, 40) = NONE; saved() = 26; silence(500) = NONE; saved() = 26; silence(0) = 500
                longest(0) = 50; saved() = 21
                """);
        // 50 and 49 alone, 4 together: 21 and 21 less 251.
        RUNS.of("25 (it may be below 0)", """
                beats(0, 0, 2) = 2; silence(50) = NONE; watcher(2, 4) = 0; wish(0, 1, 0) = NONE; watcher(0, 0) = 1
                wish(1, 0, 49) = NONE; shared() = 4; saved() = -209
                """);
        RUNS.of("25 NOT: the least int: SHARED is NONE", TWO + """
                wish(0, 0, 0) = NONE; shared() = NONE; saved() = -2147483648; wish(0, 0, NONE) = 0; saved() = 21
                """);
        RUNS.of("25 or there are no WATCHERS", """
                saved() = -2147483648; beats(0, 0, 2) = 2; saved() = -2147483648; watcher(0, 0) = 0; saved() = 0; leaves() = 0
                saved() = -2147483648
                """);
    }
}
