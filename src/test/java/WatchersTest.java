/** Promises 13 to 21. */
public final class WatchersTest {
    private static final Runs RUNS = new Runs();
    /** One of each SORT, over the seven BEATS. */
    private static final String FOUR = BeatsTest.SEVEN + """
            watcher(0, 0) = 0; watcher(1, 10) = 1; watcher(2, 1) = 2; watcher(3, 5) = 3
            """;

    public static void main(String[] args) throws Exception {
        watcher();
        leaves();
        measure();
        wish();
        info();
        infoOfWishes();
        ledger();
        limit();
        doubts();
        noticed();
        RUNS.end("WatchersTest");
    }

    private static void watcher() throws Exception {
        RUNS.of("13 watcher", """
                watcher(-1, 5) = BAD; watcher(4, 5) = BAD; watcher(MIN, 5) = BAD; watcher(MAX, 5) = BAD
                watcher(0, -1) = BAD; watcher(0, 100) = BAD; watcher(1, 0) = BAD; watcher(1, 11) = BAD
                watcher(2, 0) = BAD; watcher(2, 201) = BAD; watcher(3, -1) = BAD; watcher(3, 31) = BAD
                watcher(0, MIN) = BAD; watcher(2, MAX) = BAD; count(3) = 0
                watcher(0, 0) = 0; watcher(0, 99) = 1; watcher(1, 1) = 2; watcher(1, 10) = 3; watcher(2, 1) = 4
                watcher(2, 200) = FULL; watcher(4, 0) = BAD; watcher(3, 31) = BAD; count(3) = 5
                leaves() = 4; watcher(2, 200) = 4; leaves() = 4; watcher(3, 0) = 4; leaves() = 4
                watcher(3, 30) = 4; info(4, 0) = 3; info(4, 1) = 30; info(4, 2) = NONE; info(4, 3) = NONE
                count(8) = 0
                """);
    }

    private static void leaves() throws Exception {
        RUNS.of("14 leaves", """
                leaves() = NOT; watcher(0, 3) = 0; watcher(1, 4) = 1; wish(1, 0, 7) = NONE; wish(1, 1, 8) = NONE
                leaves() = 1; info(1, 0) = BAD; count(3) = 1; watcher(2, 9) = 1; info(1, 2) = NONE; info(1, 3) = NONE
                leaves() = 1; leaves() = 0; leaves() = NOT; count(3) = 0
                """);
    }

    private static void measure() throws Exception {
        RUNS.of("15 measure", "measure(0, 1) = BAD\n" + FOUR + """
                measure(0, 99) = 0; measure(0, 100) = BAD; measure(0, -1) = BAD; measure(0, 0) = 99
                measure(1, 1) = 10; measure(1, 0) = BAD; measure(1, 11) = BAD; measure(1, 10) = 1
                measure(2, 200) = 1; measure(2, 201) = BAD; measure(2, 0) = BAD; measure(2, 1) = 200
                measure(3, 30) = 5; measure(3, 31) = BAD; measure(3, -1) = BAD; measure(3, 0) = 30
                measure(4, 1) = BAD; measure(-1, 1) = BAD; measure(MIN, 1) = BAD; measure(MAX, 1) = BAD
                info(0, 4) = 1; measure(0, 13) = 0; info(0, 4) = 1; info(0, 5) = 1; measure(0, 14) = 13; info(0, 4) = 0
                """);
    }

    private static void wish() throws Exception {
        RUNS.of("16 wish", "wish(0, 0, 1) = BAD\n" + FOUR + """
                wish(0, 0, 0) = NONE; wish(0, 0, 500) = 0; wish(0, 0, 501) = BAD; wish(0, 0, -2) = BAD
                wish(0, 0, -1) = 500; wish(0, 0, 9) = NONE
                wish(0, 1, 0) = NONE; wish(0, 1, 40) = 0; wish(0, 1, 41) = BAD; wish(0, 1, -2) = BAD
                wish(0, 1, -1) = 40; wish(0, 1, 8) = NONE; info(0, 2) = 9; info(0, 3) = 8; info(1, 2) = NONE
                wish(0, 2, 1) = BAD; wish(0, -1, 1) = BAD; wish(4, 0, 1) = BAD; wish(-1, 0, 1) = BAD
                wish(MAX, 0, 1) = BAD; wish(MIN, 0, 1) = BAD; wish(0, MAX, 1) = BAD; wish(0, 0, MAX) = BAD
                wish(0, 1, MIN) = BAD; wish(0, 2, -1) = BAD; info(0, 2) = 9; info(0, 3) = 8
                """);
    }

    private static void info() throws Exception {
        RUNS.of("17 info", FOUR + """
                info(0, 0) = 0; info(0, 1) = 0; info(0, 2) = NONE; info(0, 3) = NONE
                info(0, 4) = 1; info(0, 5) = 14; info(0, 6) = 14; info(0, 7) = 35; info(0, 8) = 1; info(0, 9) = 78
                info(1, 0) = 1; info(1, 1) = 10; info(1, 4) = 1; info(1, 5) = 33; info(1, 6) = 33
                info(1, 7) = 44; info(1, 9) = 95
                info(2, 0) = 2; info(2, 4) = 1; info(2, 5) = 33; info(2, 7) = 26; info(2, 9) = 61
                info(3, 0) = 3; info(3, 4) = 1; info(3, 5) = 9; info(3, 6) = 9; info(3, 7) = 40; info(3, 9) = 88
                info(4, 0) = BAD; info(-1, 0) = BAD; info(0, 10) = BAD; info(0, -1) = BAD
                info(MIN, 0) = BAD; info(MAX, 0) = BAD; info(0, MIN) = BAD; info(0, MAX) = BAD
                """);
        RUNS.of("17 info, no NEWS", """
                watcher(0, 5) = 0; info(0, 4) = 0; info(0, 5) = 0; info(0, 6) = 0; info(0, 7) = NONE
                info(0, 8) = 1; info(0, 9) = NONE; beat(-1) = 1; info(0, 7) = NONE; info(0, 9) = NONE
                """);
        // By times 0, 30, 40, 80: behind 9 times there are three MISTAKES, of 21, 1 and 31.
        RUNS.of("17 info, several MISTAKES", """
                watcher(2, 9) = 0; beat(0) = 1; beat(20) = 2; beat(20) = 3; beat(50) = 4
                info(0, 4) = 3; info(0, 5) = 53; info(0, 6) = 31; info(0, 7) = 59
                """);
    }

    private static void infoOfWishes() throws Exception {
        RUNS.of("17 info, WISHES", FOUR + """
                wish(0, 0, 35) = NONE; info(0, 8) = 1; wish(0, 0, 34) = 35; info(0, 8) = 0; count(5) = 14
                wish(0, 0, 35) = 34; wish(0, 1, 0) = NONE; info(0, 8) = 0; wish(0, 1, 1) = 0; info(0, 8) = 1
                wish(0, 0, 34) = 35; info(0, 8) = 0; wish(0, 0, -1) = 34; info(0, 8) = 1; count(5) = 15
                """);
        RUNS.of("17 info, NOTICE without a LAG", """
                watcher(1, 10) = 0; wish(0, 0, 0) = NONE; info(0, 7) = NONE; info(0, 8) = 1
                beat(5) = 1; info(0, 7) = NONE; info(0, 8) = 1; info(0, 9) = NONE; limit(0, 0) = NONE; count(7) = 0
                beat(5) = 2; info(0, 7) = 16; info(0, 8) = 0; info(0, 9) = 26; count(7) = 1   # a GAP of 10
                """);
    }

    private static void ledger() throws Exception {
        RUNS.of("18 ledger", FOUR + """
                ledger(0, 0, 0) = 45; ledger(0, 0, 1) = 59; ledger(0, 0, 2) = 2
                ledger(1, 0, 0) = 26; ledger(1, 0, 1) = 59; ledger(1, 0, 2) = 2
                ledger(3, 0, 0) = 50; ledger(3, 0, 1) = 59; ledger(3, 0, 2) = 2
                ledger(0, 1, 0) = BAD; ledger(0, -1, 0) = BAD; ledger(0, 0, 3) = BAD; ledger(0, 0, -1) = BAD
                ledger(4, 0, 0) = BAD; ledger(-1, 0, 0) = BAD; ledger(MIN, 0, 0) = BAD; ledger(MAX, 0, 0) = BAD
                ledger(0, MIN, 0) = BAD; ledger(0, MAX, 0) = BAD; ledger(0, 0, MIN) = BAD; ledger(0, 0, MAX) = BAD
                """);
        RUNS.of("18 ledger, several MISTAKES", """
                watcher(2, 9) = 0; ledger(0, 0, 0) = BAD; beat(0) = 1; beat(20) = 2; beat(20) = 3; beat(50) = 4
                ledger(0, 0, 0) = 9; ledger(0, 0, 1) = 30; ledger(0, 0, 2) = 0
                ledger(0, 1, 0) = 39; ledger(0, 1, 1) = 40; ledger(0, 1, 2) = 1
                ledger(0, 2, 0) = 49; ledger(0, 2, 1) = 80; ledger(0, 2, 2) = 2; ledger(0, 3, 0) = BAD
                measure(0, 10) = 9; ledger(0, 1, 0) = 50; ledger(0, 1, 2) = 2; ledger(0, 2, 0) = BAD
                """);
    }

    private static void limit() throws Exception {
        RUNS.of("19 limit", FOUR + """
                limit(0, 0) = 35; limit(0, 1) = 40; limit(0, 2) = 45; limit(0, 3) = 74; limit(0, 4) = 78
                limit(1, 0) = NONE; limit(1, 1) = 26; limit(1, 2) = 26; limit(1, 3) = 94; limit(1, 4) = 95
                measure(1, 1) = 10; limit(1, 4) = 61; measure(1, 5) = 1; limit(1, 4) = 61
                measure(1, 6) = 5; limit(1, 4) = 62; measure(1, 7) = 6; limit(1, 4) = 62; limit(1, 3) = 94
                measure(1, 8) = 7; limit(1, 4) = 95; measure(1, 6) = 8; limit(1, 3) = 60
                limit(2, 0) = 26; limit(2, 3) = 60; limit(2, 4) = 61
                limit(3, 0) = 40; limit(3, 1) = 45; limit(3, 2) = 50; limit(3, 3) = 84; limit(3, 4) = 88
                limit(0, 5) = BAD; limit(0, -1) = BAD; limit(4, 0) = BAD; limit(-1, 0) = BAD
                limit(MIN, 0) = BAD; limit(MAX, 0) = BAD; limit(0, MIN) = BAD; limit(0, MAX) = BAD
                """);
        // The second one is so late that it is EXPECTED (at 25) ahead of when it comes, at 50.
        RUNS.of("19 limit, no sooner than it came", """
                set(0, 1) = 10; set(1, 16) = 4; beat(0) = 1; beat(49) = 2; watcher(0, 0) = 0; watcher(3, 0) = 1
                expected(1, 0) = 53; expected(1, 1) = 2; limit(0, 1) = 50; limit(1, 1) = 50; limit(0, 0) = 1
                measure(0, 30) = 0; limit(0, 1) = 57
                """);
        // WINDOW 2 forgets the GAP of 40.
        RUNS.of("19 limit, GAPS in the WINDOW alone", """
                set(1, 2) = 4; watcher(1, 10) = 0; beat(0) = 1; beat(30) = 2; beat(30) = 3; beat(30) = 4; beat(31) = 5
                limit(0, 1) = 81; limit(0, 2) = 91; limit(0, 3) = 71; limit(0, 4) = 83; set(1, 3) = 2; limit(0, 3) = 101
                """);
        // GAPS of 15, 5, 25, 5, 2, 17, 1, and then three of 10.
        RUNS.of("19 limit, GAPS that come and go", """
                set(1, 3) = 4; watcher(1, 5) = 0; watcher(1, 1) = 1; watcher(1, 10) = 2
                beat(0) = 1; beat(5) = 2; beat(0) = 3; beat(15) = 4; beat(10) = 5; beat(2) = 6; beat(9) = 7; beat(0) = 8
                limit(0, 0) = NONE; limit(0, 1) = 31; limit(0, 2) = 26; limit(0, 3) = 61; limit(0, 4) = 56
                limit(0, 5) = 58; limit(0, 6) = 75; limit(0, 7) = 73
                limit(1, 1) = 31; limit(1, 2) = 26; limit(1, 3) = 51; limit(1, 4) = 56; limit(1, 5) = 55
                limit(1, 6) = 72; limit(1, 7) = 72
                limit(2, 1) = 31; limit(2, 2) = 36; limit(2, 3) = 71; limit(2, 4) = 76; limit(2, 5) = 78
                limit(2, 6) = 87; limit(2, 7) = 88
                beats(0, 0, 3) = 3; limit(0, 8) = 91; limit(1, 8) = 82; limit(2, 8) = 98
                limit(0, 10) = 111; limit(1, 10) = 111; limit(2, 10) = 111
                """);
        RUNS.of("19 limit, the widest WINDOW", """
                set(1, 16) = 4; watcher(1, 10) = 0; beat(0) = 1; beat(-1) = 2; beat(-1) = 3; beat(-1) = 4
                beats(0, 0, 18) = 18; news(16, 0) = 19; limit(0, 16) = 231; limit(0, 17) = 211; news(17, 2) = 16
                """);
    }

    private static void doubts() throws Exception {
        RUNS.of("20 doubts", "doubts(0) = 0; doubts(6000) = 0\n" + FOUR + """
                doubts(0) = 0; doubts(24) = 0; doubts(25) = 0; doubts(26) = 6; doubts(44) = 6; doubts(45) = 7
                doubts(49) = 7; doubts(50) = 15; doubts(58) = 15; doubts(59) = 0; doubts(60) = 0; doubts(61) = 4
                doubts(77) = 4; doubts(78) = 5; doubts(87) = 5; doubts(88) = 13; doubts(94) = 13; doubts(95) = 15
                doubts(6000) = 15; doubts(6001) = BAD; doubts(-1) = BAD; doubts(MIN) = BAD; doubts(MAX) = BAD
                watcher(0, 0) = 4; doubts(78) = 21; leaves() = 4; doubts(78) = 5
                """);
        RUNS.of("20 doubts, by the first NEWS", """
                beat(3) = 1; watcher(2, 4) = 0; watcher(0, 9) = 1; doubts(3) = 0; doubts(6) = 0; doubts(7) = 1
                doubts(21) = 1; doubts(22) = 3; beat(10) = 2; doubts(19) = 1; doubts(20) = 0
                """);
    }

    private static void noticed() throws Exception {
        RUNS.of("21 noticed", "noticed(0) = BAD\n" + FOUR + """
                noticed(0) = NONE; silence(70) = NONE; noticed(0) = 8; noticed(1) = 25; noticed(2) = 0; noticed(3) = 18
                silence(78) = 70; noticed(0) = 0; silence(79) = 78; noticed(0) = 0; silence(77) = 79; noticed(0) = 1
                silence(0) = 77; noticed(0) = NONE; silence(10) = 0; noticed(1) = NONE; noticed(0) = 25
                noticed(4) = BAD; noticed(-1) = BAD; noticed(MIN) = BAD; noticed(MAX) = BAD
                """);
    }
}
