/** Promises 22 to 25. */
public final class WouldDoTest {
    private static final Runs RUNS = new Runs();
    /** Behind 15 times, FEW 0: PERIODS up to 15. Behind a margin of 3, NOTICE 20: those up to 17. */
    private static final String TWO = """
            beats(0, 0, 5) = 5; watcher(2, 15) = 0; wish(0, 1, 0) = NONE; watcher(0, 3) = 1; wish(1, 0, 20) = NONE
            """;

    public static void main(String[] args) throws Exception {
        least();
        longest();
        shared();
        saved();
        RUNS.end("WouldDoTest");
    }

    private static void least() throws Exception {
        RUNS.of("22 least", """
                least(0, 0) = 0; least(1, 0) = 1; least(2, 0) = 1
                least(3, 0) = BAD; least(-1, 0) = BAD; least(0, -1) = BAD; least(0, 41) = BAD
                least(MIN, 0) = BAD; least(MAX, 0) = BAD; least(1, MIN) = BAD; least(2, MAX) = BAD; least(2, 40) = 1
                """ + BeatsTest.SEVEN + """
                least(0, 0) = 14; least(0, 1) = 0; least(1, 0) = NONE; least(1, 1) = 1; least(2, 0) = 34
                least(2, 1) = 1; count(3) = 0
                """);
        // GAPS of 21, 1 and 31 longer than 9: so each of them asks for more.
        RUNS.of("22 least, by how many", """
                beat(0) = 1; beat(20) = 2; beat(20) = 3; beat(50) = 4
                least(2, 0) = 40; least(2, 1) = 30; least(2, 2) = 10; least(2, 3) = 1
                """);
        // At first the second NEWS come 250 behind the first: no MEASURE that a WATCHER may have would do.
        RUNS.of("22 least, none would do", """
                set(0, 50) = 10; beat(0) = 1
                beat(-1) = 2; beat(-1) = 3; beat(-1) = 4; beat(-1) = 5; beat(0) = 6
                least(0, 0) = NONE; least(1, 0) = 1; least(2, 0) = NONE; least(0, 1) = 0; least(2, 1) = 1
                delay(1, 0) = -1; delay(2, 0) = -1; least(0, 0) = NONE; delay(3, 99) = -1; least(0, 0) = 99
                """);
        RUNS.of("22 least, the greatest one", """
                set(0, 50) = 10; beat(0) = 1; beat(-1) = 2; beat(-1) = 3; beat(50) = 4; least(2, 0) = 200
                delay(3, 51) = 50; least(2, 0) = NONE
                """);
    }

    private static void longest() throws Exception {
        RUNS.of("23 longest", "longest(0) = BAD\n" + TWO + """
                longest(0) = 15; longest(1) = 17; longest(2) = BAD; longest(-1) = BAD; longest(MIN) = BAD
                longest(MAX) = BAD; watcher(1, 1) = 2; longest(2) = 50; set(0, 33) = 10; longest(0) = 15
                wish(0, 0, 14) = NONE; longest(0) = NONE; wish(0, 0, 15) = 14; longest(0) = 15
                wish(0, 1, 3) = 0; longest(0) = 15; wish(0, 1, 4) = 3; longest(0) = 50
                measure(1, 0) = 3; longest(1) = 20; wish(1, 0, 0) = 20; longest(1) = NONE; count(4) = 4; set(0, 7) = 33
                """);
        // From PERIOD 16 on, the second BEAT is never sent.
        RUNS.of("23 longest, with SILENCE", TWO + """
                silence(16) = NONE; longest(0) = 50; longest(1) = 17; silence(50) = 16; longest(0) = 50
                silence(51) = 50; longest(0) = 15; silence(0) = 51; longest(0) = 50; longest(1) = 50
                """);
        RUNS.of("23 longest, the shortest PERIOD", """
                beats(0, 0, 5) = 5; watcher(0, 3) = 0; wish(0, 0, 4) = NONE; longest(0) = 1; shared() = 1; saved() = 0
                watcher(2, 1) = 1; wish(1, 1, 0) = NONE; longest(1) = 1; shared() = 1; saved() = 1001
                wish(0, 0, 3) = 4; longest(0) = NONE; shared() = NONE
                """);
        RUNS.of("23 longest, by DELAYS and what is LOST", """
                beat(9) = 1; beat(0) = 2; watcher(2, 30) = 0; wish(0, 1, 0) = NONE; longest(0) = 39
                delay(1, 4) = 0; longest(0) = 35; beat(0) = 3; delay(1, -1) = 4; longest(0) = 19
                """);
    }

    private static void shared() throws Exception {
        RUNS.of("24 shared", "shared() = 50\n" + TWO + """
                shared() = 15; measure(1, 8) = 3; shared() = 12; measure(1, 20) = 8; shared() = NONE
                leaves() = 1; shared() = 15; leaves() = 0; shared() = 50
                """);
        // With PERIOD 50, or up to 4, the first one is content; the second one up to 49.
        RUNS.of("24 shared, less than each", """
                beats(0, 0, 5) = 5; silence(50) = NONE; watcher(2, 4) = 0; wish(0, 1, 0) = NONE
                watcher(0, 0) = 1; wish(1, 0, 49) = NONE; longest(0) = 50; longest(1) = 49; shared() = 4
                """);
    }

    private static void saved() throws Exception {
        RUNS.of("25 saved", "saved() = MIN\n" + TWO + """
                saved() = 59; measure(1, 8) = 3; saved() = 67; silence(16) = NONE; measure(1, 3) = 8; saved() = 21
                measure(1, 21) = 3; shared() = NONE; saved() = MIN; leaves() = 1; saved() = 0
                leaves() = 0; shared() = 50; saved() = MIN
                """);
        RUNS.of("25 saved, below 0", """
                beats(0, 0, 5) = 5; silence(50) = NONE; watcher(2, 4) = 0; wish(0, 1, 0) = NONE
                watcher(0, 0) = 1; wish(1, 0, 49) = NONE; saved() = -209
                """);
        RUNS.of("25 saved, at the time itself, too", """
                watcher(0, 0) = 0; watcher(0, 0) = 1; saved() = 21; watcher(0, 0) = 2; saved() = 42
                """);
    }
}
