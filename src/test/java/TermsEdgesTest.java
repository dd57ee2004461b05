/**
 * The edges that the document's Terms name: each run bears the words that it holds to, and asks the
 * value just inside and the one just outside.
 */
public final class TermsEdgesTest {
    /** Eleven NEWS, with GAPS of 11, 12 and so on up to 20; the last one comes at 155. */
    static final String RISING = """
            beat(0) = 1; beat(1) = 2; beat(3) = 3; beat(6) = 4; beat(10) = 5; beat(15) = 6
            beat(21) = 7; beat(28) = 8; beat(36) = 9; beat(45) = 10; beat(55) = 11
            """;
    /** Five NEWS whose DELAYS double, far from one another. */
    private static final String DOUBLING = """
            set(0, 50) = 10; beat(1) = 1; beat(2) = 2; beat(4) = 3; beat(8) = 4; beat(16) = 5
            """;

    private static final Runs RUNS = new Runs();

    public static void main(String[] args) throws Exception {
        calls();
        beats();
        silence();
        news();
        window();
        gaps();
        watchers();
        sortsByExpected();
        sortByShare();
        beginOfDoubt();
        endOfDoubt();
        wishes();
        lag();
        score();
        RUNS.end("TermsEdgesTest");
    }

    /** The 512th call is the last one of which something is promised. */
    private static void calls() {
        BeatDoubts x = new BeatDoubts();
        x.beats(3, 7, 40);
        x.watcher(3, 4);
        for (int call = 3; call < 512; call++) {
            RUNS.due("at most 512 calls: call " + call, x.set(1, call % 16 + 1), call == 3 ? 4 : (call - 1) % 16 + 1);
        }
        Model model = new Model();
        model.beats(3, 7, 40);
        model.watcher(3, 4);
        model.set(1, 511 % 16 + 1);
        RUNS.due("at most 512 calls: the last one", x.digest(), model.digest());
    }

    private static void beats() throws Exception {
        RUNS.of("BEATS, 40 at most, 0 on", """
                came(0, 0) = BAD; beats(3, 0, 39) = 39; came(38, 0) = 3; came(39, 0) = BAD; beat(7) = 40; came(39, 0) = 7
                beat(7) = FULL; beat(NONE) = FULL; beats(7, 0, 1) = 0; count(0) = 40
                came(40, 0) = BAD; came(-1, 0) = BAD; came(0, 0) = 3
                """);
        RUNS.of("BEAT n is sent at n times PERIOD", """
                beats(0, 0, 40) = 40; came(0, 1) = 0; came(1, 1) = 10; came(39, 1) = 390
                set(0, 1) = 10; came(0, 1) = 0; came(1, 1) = 1; came(39, 1) = 39
                set(0, 50) = 1; came(0, 1) = 0; came(1, 1) = 50; came(39, 1) = 1950
                """);
        RUNS.of("PERIOD (1 to 50; 10 at first)", """
                set(0, 0) = BAD; set(0, 51) = BAD; set(0, 50) = 10; set(0, 1) = 50; set(0, 49) = 1; set(0, 2) = 49
                """);
        RUNS.of("comes DELAY (0 to 99) behind that", """
                beat(-2) = BAD; beat(100) = BAD; beat(0) = 1; beat(99) = 2; came(0, 1) = 0; came(1, 1) = 109; count(0) = 2
                """);
        RUNS.of("or is LOST", """
                beat(NONE) = 1; came(0, 0) = NONE; came(0, 1) = NONE; came(0, 2) = NONE; count(1) = 1; count(2) = 0
                beat(0) = 2; count(1) = 1; count(2) = 1; came(1, 2) = 0; delay(1, NONE) = 0; count(1) = 2; count(2) = 0
                """);
    }

    private static void silence() throws Exception {
        RUNS.of("SILENCE is a time (0 to 5000), or NONE (at first)", """
                silence(-2) = BAD; silence(5001) = BAD; silence(0) = NONE; silence(5000) = 0; silence(NONE) = 5000
                silence(1) = NONE; silence(4999) = 1; silence(NONE) = 4999; silence(NONE) = NONE
                """);
        RUNS.of("BEATS sent at it or later are not sent at all", """
                beats(5, 0, 3) = 3; silence(21) = NONE; came(2, 1) = 25; silence(20) = 21; came(2, 1) = NONE; came(1, 1) = 15
                silence(19) = 20; came(2, 1) = NONE; silence(11) = 19; came(1, 1) = 15; silence(10) = 11; came(1, 1) = NONE
                came(0, 1) = 5; silence(1) = 10; came(0, 1) = 5; silence(0) = 1; came(0, 1) = NONE; count(2) = 0
                """);
        RUNS.of("BEATS sent at it: not those that come at it", """
                beat(99) = 1; beat(0) = 2; silence(1) = NONE; came(0, 1) = 99; news(0, 0) = 0; news(0, 1) = 99; count(2) = 1
                """);
        RUNS.of("BEATS sent at it, by PERIOD", """
                beats(0, 0, 2) = 2; silence(50) = NONE; set(0, 50) = 10; came(1, 1) = NONE; set(0, 49) = 50; came(1, 1) = 49
                """);
        RUNS.of("BEATS sent at it, the last one", """
                beats(99, 0, 40) = 40; set(0, 50) = 10; silence(1950) = NONE; came(39, 1) = NONE; silence(1951) = 1950
                came(39, 1) = 2049; silence(5000) = 1951; came(39, 1) = 2049; count(1) = 0
                """);
        RUNS.of("they count as LOST", """
                beats(1, 0, 3) = 3; beat(NONE) = 4; count(1) = 1; silence(30) = NONE; count(1) = 1; silence(20) = 30
                count(1) = 2; count(2) = 2; silence(0) = 20; count(1) = 4; silence(NONE) = 0; count(1) = 1
                """);
    }

    private static void news() throws Exception {
        RUNS.of("of like ones by numbers", """
                beat(10) = 1; beat(0) = 2; came(0, 1) = 10; came(1, 1) = 10; came(0, 2) = 0; came(1, 2) = 1
                news(0, 0) = 0; news(1, 0) = 1
                """);
        RUNS.of("of like ones by numbers, all of them", """
                set(0, 1) = 10; beats(39, -1, 40) = 40; count(2) = 40; news(0, 0) = 0; news(0, 1) = 39
                news(20, 0) = 20; news(39, 0) = 39; news(39, 1) = 39; news(40, 0) = BAD
                """);
        RUNS.of("one is NEWS, if its number is greater", """
                beat(9) = 1; beat(0) = 2; count(2) = 2; came(0, 2) = 0; came(1, 2) = 1
                delay(0, 10) = 9; count(2) = 2; came(0, 2) = 0; came(1, 2) = 1
                delay(0, 11) = 10; count(2) = 1; came(0, 2) = NONE; came(1, 2) = 0
                """);
        RUNS.of("than that of all that came ahead of it, not of the next one alone", """
                beat(20) = 1; beat(NONE) = 2; beat(0) = 3; count(2) = 2; delay(0, 21) = 20; count(2) = 1; news(0, 0) = 2
                """);
        // They come as 2 (at 20), 0 (at 21), 1 (at 22).
        RUNS.of("than that of all that came ahead of it, not of the latest alone", """
                beat(21) = 1; beat(12) = 2; beat(0) = 3; count(2) = 1; came(0, 2) = NONE; came(1, 2) = NONE; came(2, 2) = 0
                """);
        RUNS.of("NEWS are numbered, too, 0 on", """
                news(0, 0) = BAD; beat(NONE) = 1; news(0, 0) = BAD; beat(4) = 2; news(0, 0) = 1; came(1, 2) = 0
                news(1, 0) = BAD; news(-1, 0) = BAD; beats(4, 0, 38) = 38; news(38, 0) = 39; news(39, 0) = BAD
                """);
    }

    private static void window() throws Exception {
        RUNS.of("WINDOW (1 to 16; 4 at first)", """
                set(1, 0) = BAD; set(1, 17) = BAD; set(1, 16) = 4; set(1, 1) = 16; set(1, 15) = 1; set(1, 2) = 15
                """);
        RUNS.of("for it and NEWS ahead of it, WINDOW of them at most, the latest", DOUBLING + """
                expected(0, 0) = 51; expected(0, 1) = 1; expected(1, 0) = 203; expected(1, 1) = 2
                expected(2, 0) = 457; expected(2, 1) = 3; expected(3, 0) = 815; expected(3, 1) = 4
                expected(4, 0) = 515; expected(4, 1) = 2        # (2 + 4 + 8 + 16) / 4 + 250
                set(1, 5) = 4; expected(4, 0) = 1281; expected(4, 1) = 5
                set(1, 16) = 5; expected(4, 0) = 1281; expected(4, 1) = 5
                set(1, 3) = 16; expected(3, 0) = 614; expected(3, 1) = 3; expected(2, 0) = 457; expected(2, 1) = 3
                set(1, 1) = 3; expected(4, 0) = 266; expected(4, 1) = 1; expected(0, 0) = 51; expected(0, 1) = 1
                """);
        RUNS.of("WINDOW of them at most, the widest", """
                set(0, 50) = 10; set(1, 16) = 4; beat(16) = 1; beats(0, 0, 16) = 16
                expected(14, 0) = 11266; expected(14, 1) = 15; expected(15, 0) = 801; expected(15, 1) = 1
                expected(16, 0) = 850; expected(16, 1) = 1
                """);
        RUNS.of("PERIOD times one more than the number of its BEAT (a FRACTION)", """
                beat(4) = 1; beat(NONE) = 2; beat(7) = 3; expected(0, 0) = 14; expected(0, 1) = 1
                expected(1, 0) = 71; expected(1, 1) = 2         # (4 + 7) / 2 + 10 times 3
                """);
    }

    private static void gaps() throws Exception {
        RUNS.of("WINDOW GAPS at most", """
                beats(0, 0, 18) = 18; news(0, 2) = 0; news(1, 2) = 1; news(3, 2) = 3; news(4, 2) = 4; news(5, 2) = 4
                set(1, 1) = 4; news(0, 2) = 0; news(1, 2) = 1; news(2, 2) = 1; news(17, 2) = 1
                set(1, 16) = 1; news(15, 2) = 15; news(16, 2) = 16; news(17, 2) = 16
                """);
        // GAPS of 30, 10, 10; the last NEWS come at 50.
        RUNS.of("WINDOW GAPS at most, the latest", """
                beat(0) = 1; beat(20) = 2; beat(20) = 3; beat(20) = 4; set(1, 3) = 4
                score(61, 0) = 2; score(61, 1) = 3; score(80, 0) = 2; score(80, 1) = 3; score(81, 0) = 1; score(81, 1) = 1
                set(1, 2) = 3; score(60, 0) = 0; score(60, 1) = 1; score(61, 0) = 1; score(61, 1) = 1
                """);
    }

    private static void watchers() throws Exception {
        RUNS.of("WATCHERS, 5 at most, 0 on", """
                info(0, 0) = BAD; watcher(0, 0) = 0; watcher(1, 1) = 1; watcher(2, 2) = 2; watcher(3, 3) = 3
                info(4, 0) = BAD; watcher(0, 4) = 4; watcher(0, 5) = FULL; count(3) = 5
                info(0, 1) = 0; info(4, 1) = 4; info(5, 0) = BAD; info(-1, 0) = BAD
                """);
        RUNS.of("SORT 0 (MEASURE 0 to 99)", """
                watcher(0, -1) = BAD; watcher(0, 100) = BAD; watcher(0, 0) = 0; watcher(0, 99) = 1; measure(0, 99) = 0
                measure(0, 100) = BAD; measure(1, 0) = 99; measure(1, -1) = BAD
                """);
        RUNS.of("1 (MEASURE 1 to 10)", """
                watcher(1, 0) = BAD; watcher(1, 11) = BAD; watcher(1, 1) = 0; watcher(1, 10) = 1; measure(0, 10) = 1
                measure(0, 11) = BAD; measure(1, 1) = 10; measure(1, 0) = BAD
                """);
        RUNS.of("2 (MEASURE 1 to 200)", """
                watcher(2, 0) = BAD; watcher(2, 201) = BAD; watcher(2, 1) = 0; watcher(2, 200) = 1; measure(0, 200) = 1
                measure(0, 201) = BAD; measure(1, 1) = 200; measure(1, 0) = BAD
                """);
        RUNS.of("3 (MEASURE 0 to 30)", """
                watcher(3, -1) = BAD; watcher(3, 31) = BAD; watcher(3, 0) = 0; watcher(3, 30) = 1; measure(0, 30) = 0
                measure(0, 31) = BAD; measure(1, 0) = 30; measure(1, -1) = BAD
                """);
    }

    private static void sortsByExpected() throws Exception {
        RUNS.of("EXPECTED and MEASURE", """
                watcher(0, 0) = 0; watcher(0, 99) = 1; set(0, 50) = 10; beat(1) = 1; beat(2) = 2   # EXPECTED 51 and 101.5
                limit(0, 0) = 51; limit(1, 0) = 150; limit(0, 1) = 102; limit(1, 1) = 201
                """);
        RUNS.of("MEASURE behind when it came", """
                watcher(2, 1) = 0; watcher(2, 200) = 1; beat(7) = 1; limit(0, 0) = 8; limit(1, 0) = 207
                beat(99) = 2; limit(0, 1) = 110; limit(1, 1) = 309; limit(0, 0) = 8
                """);
        // With WINDOW 1 the LIMIT is 10, and MEASURE once, twice and so on, behind when NEWS came.
        RUNS.of("MEASURE times one more than how many MISTAKES the WATCHER made by NEWS ahead of this one", """
                set(1, 1) = 4; watcher(3, 5) = 0; watcher(2, 1) = 1; beat(0) = 1; beat(5) = 2
                info(0, 4) = 0; limit(0, 0) = 15; limit(0, 1) = 30
                delay(1, 6) = 5; info(0, 4) = 1; limit(0, 0) = 15; limit(0, 1) = 36
                beat(16) = 3; info(0, 4) = 1; limit(0, 2) = 56; delay(2, 17) = 16; info(0, 4) = 2; limit(0, 1) = 36
                limit(0, 2) = 62; info(1, 4) = 2
                """);
        RUNS.of("MEASURE 0 and 30 times one more, the fewest and the most MISTAKES", """
                watcher(3, 0) = 0; watcher(3, 30) = 1; beat(7) = 1; limit(0, 0) = 17; limit(1, 0) = 47; back() = 0
                set(1, 1) = 4; beats(0, 1, 40) = 40; info(0, 4) = 39; info(0, 5) = 39; info(0, 6) = 1; limit(0, 39) = 439
                measure(0, 1) = 0; info(0, 4) = 0; limit(0, 39) = 440
                """);
    }

    private static void sortByShare() throws Exception {
        RUNS.of("MEASURE tenths or more, of ten GAPS", "set(1, 10) = 4; watcher(1, 1) = 0\n" + RISING + """
                limit(0, 10) = 167; measure(0, 2) = 1; limit(0, 10) = 168; measure(0, 3) = 2; limit(0, 10) = 169
                measure(0, 4) = 3; limit(0, 10) = 170; measure(0, 5) = 4; limit(0, 10) = 171; measure(0, 6) = 5
                limit(0, 10) = 172; measure(0, 7) = 6; limit(0, 10) = 173; measure(0, 8) = 7; limit(0, 10) = 174
                measure(0, 9) = 8; limit(0, 10) = 175; measure(0, 10) = 9; limit(0, 10) = 176
                """);
        RUNS.of("MEASURE tenths or more, of four and of five GAPS", "watcher(1, 1) = 0\n" + RISING + """
                limit(0, 10) = 173; measure(0, 2) = 1; limit(0, 10) = 173; measure(0, 3) = 2; limit(0, 10) = 174
                measure(0, 5) = 3; limit(0, 10) = 174; measure(0, 6) = 5; limit(0, 10) = 175; measure(0, 7) = 6
                limit(0, 10) = 175; measure(0, 8) = 7; limit(0, 10) = 176; measure(0, 10) = 8; limit(0, 10) = 176
                set(1, 5) = 4; measure(0, 2) = 10; limit(0, 10) = 172; measure(0, 3) = 2; limit(0, 10) = 173
                measure(0, 4) = 3; limit(0, 10) = 173; measure(0, 5) = 4; limit(0, 10) = 174
                """);
        // GAPS of 14, 13, 12, 11: the least of them are the latest.
        RUNS.of("MEASURE tenths or more, of GAPS that fall", """
                watcher(1, 1) = 0; beat(0) = 1; beat(4) = 2; beat(7) = 3; beat(9) = 4; beat(10) = 5; limit(0, 4) = 62
                measure(0, 3) = 1; limit(0, 4) = 63; measure(0, 5) = 3; limit(0, 4) = 63; measure(0, 6) = 5; limit(0, 4) = 64
                measure(0, 8) = 6; limit(0, 4) = 65
                """);
        RUNS.of("MEASURE tenths or more, of one GAP", "set(1, 1) = 4; watcher(1, 1) = 0\n" + RISING + """
                limit(0, 10) = 176; measure(0, 10) = 1; limit(0, 10) = 176; limit(0, 1) = 23
                """);
        RUNS.of("are less than t less when it came", """
                beats(0, 0, 2) = 2; watcher(1, 10) = 0; limit(0, 1) = 21; doubts(20) = 0; doubts(21) = 1
                """);
        RUNS.of("are less than t less when it came, a GAP of 0", """
                beat(10) = 1; beat(0) = 2; watcher(1, 1) = 0; watcher(1, 10) = 1; limit(0, 1) = 11; limit(1, 1) = 11
                doubts(10) = 0; doubts(11) = 3
                """);
        RUNS.of("with no GAPS there is no LIMIT", """
                watcher(1, 1) = 0; watcher(1, 10) = 1; beat(3) = 1; limit(0, 0) = NONE; limit(1, 0) = NONE; info(0, 7) = NONE
                info(0, 9) = NONE; doubts(6000) = 0; beat(99) = 2; limit(0, 0) = NONE; info(0, 4) = 0; doubts(108) = 0
                limit(0, 1) = 216; info(0, 9) = 216
                """);
    }

    private static void beginOfDoubt() throws Exception {
        // EXPECTED: 51, 101.5, 152 and a third, 203.75, 257.5.
        RUNS.of("the least whole time that is no less than the LIMIT", DOUBLING + """
                watcher(0, 0) = 0; limit(0, 0) = 51; limit(0, 1) = 102; limit(0, 2) = 153; limit(0, 3) = 204; limit(0, 4) = 258
                doubts(257) = 0; doubts(258) = 1
                """);
        // EXPECTED by NEWS 1, and when these came: 2.5 and 2; 3 and 3; 3.5 and 4; 51.5 and 100.
        RUNS.of("nor than when it came", """
                set(0, 1) = 10; watcher(0, 0) = 0; watcher(3, 0) = 1; beat(0) = 1; beat(1) = 2; limit(0, 1) = 3; limit(1, 1) = 3
                delay(1, 2) = 1; limit(0, 1) = 3; limit(1, 1) = 3; delay(1, 3) = 2; limit(0, 1) = 4; limit(1, 1) = 4
                delay(1, 99) = 3; limit(0, 1) = 100; limit(1, 1) = 100; info(0, 9) = 100; doubts(100) = 3
                """);
        RUNS.of("if the next NEWS come later than that", """
                watcher(2, 10) = 0; beats(0, 0, 2) = 2; info(0, 4) = 0; doubts(9) = 0; doubts(10) = 0; doubts(19) = 0
                delay(1, 1) = 0; info(0, 4) = 1; ledger(0, 0, 0) = 10; ledger(0, 0, 1) = 11
                doubts(9) = 0; doubts(10) = 1; doubts(11) = 0
                """);
        RUNS.of("if the next NEWS come later than that: sooner than when DOUBT would begin", """
                watcher(2, 11) = 0; beats(0, 0, 2) = 2; info(0, 4) = 0; doubts(11) = 0; doubts(20) = 0; doubts(21) = 1
                """);
        RUNS.of("or there are none", """
                watcher(2, 1) = 0; info(0, 9) = NONE; beat(0) = 1; info(0, 9) = 1; info(0, 4) = 0; doubts(0) = 0; doubts(1) = 1
                """);
        RUNS.of("Ahead of the first NEWS nobody doubts", """
                watcher(0, 0) = 0; watcher(2, 1) = 1; watcher(3, 0) = 2; doubts(0) = 0; doubts(6000) = 0
                beat(99) = 1; doubts(0) = 0; doubts(98) = 0; doubts(99) = 0; doubts(100) = 2; doubts(108) = 2; doubts(109) = 7
                """);
    }

    private static void endOfDoubt() throws Exception {
        RUNS.of("and ends when these come: then it was a MISTAKE", """
                watcher(2, 3) = 0; beats(0, 0, 2) = 2; doubts(2) = 0; doubts(3) = 1; doubts(9) = 1; doubts(10) = 0
                doubts(12) = 0; doubts(13) = 1; info(0, 4) = 1; ledger(0, 0, 1) = 10; ledger(0, 1, 0) = BAD
                """);
        RUNS.of("DOUBT by the last NEWS never ends", """
                watcher(2, 3) = 0; beats(0, 0, 40) = 40; info(0, 9) = 393; doubts(392) = 0; doubts(393) = 1; doubts(6000) = 1
                info(0, 4) = 39
                """);
        // BEAT 0 comes at 50, behind BEAT 1: it is no NEWS, and ends nothing.
        RUNS.of("DOUBT by the last NEWS never ends, whatever else comes", """
                beat(50) = 1; beat(0) = 2; watcher(2, 20) = 0; info(0, 9) = 30; doubts(29) = 0; doubts(30) = 1; doubts(49) = 1
                doubts(50) = 1; doubts(51) = 1; doubts(6000) = 1; info(0, 4) = 0
                """);
    }

    private static void wishes() throws Exception {
        RUNS.of("NOTICE (0 to 500; NONE at first)", """
                watcher(0, 0) = 0; wish(0, 0, -2) = BAD; wish(0, 0, 501) = BAD; wish(0, 0, 0) = NONE; wish(0, 0, 500) = 0
                wish(0, 0, NONE) = 500; wish(0, 0, NONE) = NONE
                """);
        RUNS.of("LAG is no more than that", """
                watcher(2, 10) = 0; beats(3, 0, 2) = 2; info(0, 7) = 13; wish(0, 0, 13) = NONE; info(0, 8) = 1
                wish(0, 0, 12) = 13; info(0, 8) = 0; wish(0, 0, 14) = 12; info(0, 8) = 1; wish(0, 0, 0) = 14; info(0, 8) = 0
                wish(0, 0, 500) = 0; info(0, 8) = 1
                """);
        RUNS.of("FEW (0 to 40; NONE at first)", """
                watcher(0, 0) = 0; wish(0, 1, -2) = BAD; wish(0, 1, 41) = BAD; wish(0, 1, 0) = NONE; wish(0, 1, 40) = 0
                wish(0, 1, NONE) = 40; wish(0, 1, NONE) = NONE
                """);
        RUNS.of("MISTAKES are no more than that", """
                set(1, 1) = 4; beats(0, 1, 40) = 40; watcher(0, 0) = 0; info(0, 4) = 39; wish(0, 1, 39) = NONE; info(0, 8) = 1
                wish(0, 1, 38) = 39; info(0, 8) = 0; wish(0, 1, 40) = 38; info(0, 8) = 1; wish(0, 1, 0) = 40; info(0, 8) = 0
                measure(0, 1) = 0; info(0, 4) = 0; info(0, 8) = 1
                """);
        // One MISTAKE, a LAG of 9.
        RUNS.of("WISHES are KEPT, if those it has hold", """
                watcher(2, 9) = 0; beats(0, 0, 2) = 2; info(0, 8) = 1; wish(0, 0, 9) = NONE; info(0, 8) = 1
                wish(0, 1, 1) = NONE; info(0, 8) = 1; wish(0, 0, 8) = 9; info(0, 8) = 0; wish(0, 1, 0) = 1; info(0, 8) = 0
                wish(0, 0, 9) = 8; info(0, 8) = 0; wish(0, 0, NONE) = 9; info(0, 8) = 0; wish(0, 1, NONE) = 0; info(0, 8) = 1
                wish(0, 0, 8) = NONE; info(0, 8) = 0
                """);
        RUNS.of("NOTICE holds, too, if there is no LAG", """
                watcher(1, 1) = 0; wish(0, 0, 0) = NONE; info(0, 8) = 1; beat(0) = 1; info(0, 8) = 1; beat(0) = 2; info(0, 8) = 0
                """);
    }

    private static void lag() throws Exception {
        RUNS.of("of all NEWS with a LIMIT the greatest", """
                watcher(2, 5) = 0; beat(9) = 1; beat(3) = 2; beat(1) = 3; info(0, 7) = 14; delay(0, 0) = 9; info(0, 7) = 8
                delay(2, 8) = 1; info(0, 7) = 13
                """);
        RUNS.of("were there none behind it", """
                watcher(2, 200) = 0; beats(0, 0, 3) = 3; info(0, 7) = 200; info(0, 4) = 0
                """);
        RUNS.of("less PERIOD times the number of its BEAT", """
                watcher(2, 5) = 0; beat(NONE) = 1; beat(NONE) = 2; beat(2) = 3; info(0, 7) = 7; set(0, 50) = 10; info(0, 7) = 7
                """);
        RUNS.of("NONE: there are none", """
                watcher(0, 0) = 0; watcher(1, 1) = 1; info(0, 7) = NONE; info(1, 7) = NONE; beat(NONE) = 1; info(0, 7) = NONE
                beat(0) = 2; info(0, 7) = 10; info(1, 7) = NONE; beat(0) = 3; info(1, 7) = 11
                """);
    }

    private static void score() throws Exception {
        // GAPS of 10 and 15; NEWS come at 0, 10, 25.
        String three = "beat(0) = 1; beat(0) = 2; beat(5) = 3\n";
        RUNS.of("the latest NEWS that came at t or ahead of it", three + """
                score(9, 0) = NOT; score(10, 0) = 0; score(10, 1) = 1; score(24, 0) = 1; score(24, 1) = 1
                score(25, 0) = 0; score(25, 1) = 1
                """);
        RUNS.of("the share that are less than t less when these came", three + """
                score(20, 0) = 0; score(21, 0) = 1; score(35, 0) = 0; score(36, 0) = 1; score(36, 1) = 2
                score(40, 0) = 1; score(40, 1) = 2; score(41, 0) = 1; score(41, 1) = 1
                """);
        RUNS.of("told in lowest terms, above and below; 0 by 1", RISING + """
                score(172, 0) = 0; score(172, 1) = 1; score(173, 0) = 1; score(173, 1) = 4; score(174, 0) = 1; score(174, 1) = 2
                score(175, 0) = 3; score(175, 1) = 4; score(176, 0) = 1; score(176, 1) = 1
                """);
    }
}
