/**
 * The edges that promises 1 to 12 name: each run bears the promise and the words that it holds to.
 * Where more than one refusal fits, the first one is due.
 */
public final class BeatsEdgesTest {
    private static final Runs RUNS = new Runs();

    public static void main(String[] args) throws Exception {
        newObject();
        beat();
        beats();
        delay();
        back();
        set();
        silence();
        read();
        came();
        newsOf();
        expected();
        score();
        RUNS.end("BeatsEdgesTest");
    }

    private static void newObject() throws Exception {
        RUNS.of("1 No BEATS", "count(0) = 0; back() = NOT; came(0, 0) = BAD; delay(0, 0) = BAD; count(6) = NONE");
        RUNS.of("1 PERIOD 10", "beats(0, 0, 2) = 2; came(1, 1) = 10; set(0, 10) = 10");
        RUNS.of("1 WINDOW 4", "beats(0, 0, 6) = 6; news(4, 2) = 4; news(5, 2) = 4; set(1, 4) = 4");
        RUNS.of("1 no SILENCE", "beats(0, 0, 40) = 40; count(1) = 0; watcher(2, 1) = 0; noticed(0) = NONE; silence(0) = NONE");
        RUNS.of("1 no WATCHERS", "count(3) = 0; leaves() = NOT; info(0, 0) = BAD; longest(0) = BAD; saved() = MIN");
        RUNS.of("1 all SHEETS are LOST", "lose(0) = NULL; lose(1) = NULL; lose(2) = NULL; lose(3) = NULL");
        RUNS.of("1 no FINDING before any", "count(8) = 0; get(4, 0) = BAD; count(8) = 0; back() = NOT; count(8) = 0");
    }

    private static void beat() throws Exception {
        RUNS.of("2 with a DELAY: how many", """
                beat(0) = 1; beat(99) = 2; came(0, 0) = 0; came(1, 0) = 99
                """);
        RUNS.of("2 or (NONE) LOST", """
                beat(-1) = 1; came(0, 0) = NONE; count(0) = 1; count(1) = 1
                """);
        RUNS.of("2 BAD", """
                beat(-2) = BAD; beat(100) = BAD; beat(MIN) = BAD; beat(MAX) = BAD; count(0) = 0
                """);
        RUNS.of("2 FULL", """
                beats(1, 0, 39) = 39; beat(5) = 40; beat(6) = FULL; beat(NONE) = FULL; count(0) = 40; came(39, 0) = 5
                back() = 39; beat(6) = 40; came(39, 0) = 6
                """);
        RUNS.of("2 BAD; FULL", """
                beats(1, 0, 40) = 40; beat(-2) = BAD; beat(100) = BAD; beat(99) = FULL; beat(0) = FULL; count(0) = 40
                """);
    }

    private static void beats() throws Exception {
        RUNS.of("3 n (1 to 40)", """
                beats(5, 0, 0) = BAD; beats(5, 0, 41) = BAD; beats(5, 0, -1) = BAD; beats(5, 0, MIN) = BAD
                beats(5, 0, MAX) = BAD; count(0) = 0; beats(5, 0, 1) = 1; count(0) = 1; back() = 0; beats(5, 0, 40) = 40
                """);
        RUNS.of("3 moved on by d (-99 to 99)", """
                beats(5, -100, 2) = BAD; beats(5, 100, 2) = BAD; beats(5, MIN, 2) = BAD; beats(5, MAX, 2) = BAD; count(0) = 0
                beats(99, -99, 2) = 2; came(1, 0) = 0; beats(0, 99, 2) = 2; came(3, 0) = 99; beats(7, 0, 2) = 2; came(5, 0) = 7
                """);
        RUNS.of("3 modulo 100 (0 or more)", """
                beats(98, 1, 3) = 3; came(1, 0) = 99; came(2, 0) = 0
                beats(1, -1, 3) = 3; came(4, 0) = 0; came(5, 0) = 99
                beats(99, 99, 3) = 3; came(7, 0) = 98; came(8, 0) = 97
                beats(0, -99, 3) = 3; came(10, 0) = 1; came(11, 0) = 2
                beats(50, 50, 3) = 3; came(13, 0) = 0; came(14, 0) = 50
                beats(50, -50, 3) = 3; came(16, 0) = 0; came(17, 0) = 50
                """);
        RUNS.of("3 the first one's is a (0 to 99)", """
                beats(-1, 0, 1) = BAD; beats(100, 0, 1) = BAD; beats(MIN, 0, 1) = BAD; beats(MAX, 0, 1) = BAD; count(0) = 0
                beats(0, 9, 1) = 1; came(0, 0) = 0; beats(99, 9, 1) = 1; came(1, 0) = 99
                """);
        RUNS.of("3 as many as there is room for: how many", """
                beats(1, 0, 37) = 37; beats(60, 1, 3) = 3; count(0) = 40; back() = 39; back() = 38
                beats(70, 1, 3) = 2; came(38, 0) = 70; came(39, 0) = 71; back() = 39; beats(80, 1, 40) = 1; came(39, 0) = 80
                beats(90, 1, 1) = 0; beats(90, 1, 40) = 0; count(0) = 40; came(39, 0) = 80
                """);
        RUNS.of("3 BAD, without room, too", """
                beats(1, 0, 40) = 40; beats(-1, 0, 1) = BAD; beats(0, 100, 1) = BAD; beats(0, 0, 41) = BAD; beats(0, 0, 0) = BAD
                """);
    }

    private static void delay() throws Exception {
        RUNS.of("4 becomes v, or (NONE) it is LOST", """
                beats(5, 1, 2) = 2; delay(0, 0) = 5; came(0, 0) = 0; delay(0, 99) = 0; came(0, 0) = 99; delay(1, NONE) = 6
                came(1, 0) = NONE; count(1) = 1; delay(1, 3) = NONE; came(1, 0) = 3; count(1) = 0
                """);
        RUNS.of("4 what was told of it (whether it is sent, or not)", """
                beats(5, 1, 2) = 2; silence(10) = NONE; came(1, 0) = NONE; delay(1, 8) = 6; came(1, 0) = NONE; delay(1, NONE) = 8
                delay(1, 9) = NONE; silence(11) = 10; came(1, 0) = 9
                """);
        RUNS.of("4 BAD", """
                delay(0, 1) = BAD; beats(5, 1, 2) = 2; delay(-1, 1) = BAD; delay(2, 1) = BAD; delay(MIN, 1) = BAD; delay(MAX, 1) = BAD
                delay(0, -2) = BAD; delay(0, 100) = BAD; delay(1, MIN) = BAD; delay(1, MAX) = BAD; came(0, 0) = 5; came(1, 0) = 6
                """);
        RUNS.of("4 BAD, the last of forty", "beats(5, 0, 40) = 40; delay(40, 1) = BAD; delay(39, 1) = 5; came(39, 0) = 1");
    }

    private static void back() throws Exception {
        RUNS.of("5 how many are left", """
                beats(5, 1, 40) = 40; back() = 39; came(39, 0) = BAD; came(38, 0) = 43; count(0) = 39; count(2) = 39
                """);
        RUNS.of("5 NOT: there is none", """
                back() = NOT; beat(5) = 1; back() = 0; back() = NOT; count(0) = 0; beat(NONE) = 1; back() = 0; back() = NOT
                """);
        RUNS.of("5 the last BEAT is gone: it hides none any more", """
                beat(20) = 1; beat(0) = 2; count(2) = 1; back() = 1; count(2) = 1; news(0, 0) = 0; news(0, 1) = 20
                """);
    }

    private static void set() throws Exception {
        RUNS.of("6 PERIOD (what = 0), WINDOW (1): what it was", """
                set(0, 1) = 10; set(1, 1) = 4; set(0, 50) = 1; set(1, 16) = 1; set(0, 50) = 50; set(1, 16) = 16
                """);
        RUNS.of("6 BAD", """
                set(-1, 5) = BAD; set(2, 5) = BAD; set(MIN, 5) = BAD; set(MAX, 5) = BAD
                set(0, 0) = BAD; set(0, 51) = BAD; set(0, MIN) = BAD; set(0, MAX) = BAD; set(0, NONE) = BAD
                set(1, 0) = BAD; set(1, 17) = BAD; set(1, MIN) = BAD; set(1, MAX) = BAD; set(1, NONE) = BAD
                set(1, 50) = BAD; set(0, 17) = 10; set(1, 16) = 4
                """);
    }

    private static void silence() throws Exception {
        RUNS.of("7 what it was", """
                silence(0) = NONE; silence(5000) = 0; silence(NONE) = 5000; silence(NONE) = NONE; silence(7) = NONE
                """);
        RUNS.of("7 BAD", """
                silence(9) = NONE; silence(-2) = BAD; silence(5001) = BAD; silence(MIN) = BAD; silence(MAX) = BAD; silence(9) = 9
                """);
    }

    private static void read() throws Exception {
        RUNS.of("8 its items as DELAYS (NONE: LOST)", """
                sheet(0, 0, 3) = 3; put(0, 0, 0, 0) = 1; put(0, 0, 1, -1) = 1; put(0, 0, 2, 99) = 1; read(0) = 3
                came(0, 0) = 0; came(1, 0) = NONE; came(2, 0) = 99; count(1) = 1
                """);
        RUNS.of("8 as long as each may be", """
                sheet(0, 0, 3) = 3; put(0, 0, 1, 100) = 1; read(0) = 1; count(0) = 1; put(0, 0, 1, -2) = 1; read(0) = 1
                count(0) = 2; put(0, 0, 0, -2) = 1; read(0) = 0; put(0, 0, 0, 100) = 1; read(0) = 0; put(0, 0, 0, MIN) = 1
                read(0) = 0; put(0, 0, 0, MAX) = 1; read(0) = 0; count(0) = 2
                """);
        RUNS.of("8 and there is room: how many", """
                sheet(0, 0, 2) = 2; put(0, 0, 0, 6) = 1; put(0, 0, 1, 7) = 1; beats(1, 0, 38) = 38; read(0) = 2; count(0) = 40
                read(0) = 0; count(0) = 40; back() = 39; read(0) = 1; came(39, 0) = 6
                """);
        RUNS.of("8 an empty SHEET, a full one", """
                sheet(0, 0, 0) = 0; read(0) = 0; count(0) = 0; sheet(0, 0, 40) = 40; read(0) = 40; count(0) = 40; read(0) = 0
                """);
        RUNS.of("8 BAD", "read(-1) = BAD; read(4) = BAD; read(MIN) = BAD; read(MAX) = BAD; count(8) = 0");
        RUNS.of("8 NULL", "read(0) = NULL; count(8) = 1; read(3) = NULL; sheet(3, 0, 1) = 1; read(3) = 1; lose(3) = 1; read(3) = NULL");
        RUNS.of("8 CAST", """
                sheet(0, 1, 2) = 2; read(0) = CAST; count(8) = 3; count(0) = 0; sheet(3, 1, 0) = 0; read(3) = CAST; count(0) = 0
                """);
        RUNS.of("8 NULL and CAST, without room, too", """
                beats(1, 0, 40) = 40; read(0) = NULL; sheet(0, 1, 1) = 1; read(0) = CAST; read(4) = BAD; count(8) = 3
                """);
    }

    private static void came() throws Exception {
        RUNS.of("9 DELAY (what = 0; NONE: it is LOST, of those not sent, too)", """
                beat(0) = 1; beat(NONE) = 2; beat(99) = 3; came(0, 0) = 0; came(1, 0) = NONE; came(2, 0) = 99
                silence(20) = NONE; came(2, 0) = NONE; silence(21) = 20; came(2, 0) = 99
                """);
        RUNS.of("9 when it came (1; NONE)", """
                beat(0) = 1; beat(NONE) = 2; beat(99) = 3; came(0, 1) = 0; came(1, 1) = NONE; came(2, 1) = 119
                silence(20) = NONE; came(2, 1) = NONE; silence(21) = 20; came(2, 1) = 119
                """);
        RUNS.of("9 which NEWS it is (2; NONE)", """
                beat(21) = 1; beat(NONE) = 2; beat(0) = 3; came(0, 2) = NONE; came(1, 2) = NONE; came(2, 2) = 0
                silence(20) = NONE; came(2, 2) = NONE; came(0, 2) = 0
                """);
        RUNS.of("9 BAD", """
                came(0, 0) = BAD; beats(5, 0, 2) = 2; came(-1, 0) = BAD; came(2, 0) = BAD; came(MIN, 0) = BAD; came(MAX, 0) = BAD
                came(0, -1) = BAD; came(0, 3) = BAD; came(0, MIN) = BAD; came(0, MAX) = BAD; came(1, 2) = 1; came(0, 0) = 5
                beats(5, 0, 38) = 38; came(39, 2) = 39; came(40, 0) = BAD; back() = 39; came(39, 0) = BAD
                """);
    }

    private static void newsOf() throws Exception {
        RUNS.of("10 how many GAPS there are by it (2)", """
                beats(5, 0, 6) = 6; news(0, 2) = 0; news(1, 2) = 1; news(4, 2) = 4; news(5, 2) = 4
                """);
        RUNS.of("10 BAD", """
                news(0, 0) = BAD; beat(5) = 1; beat(NONE) = 2; news(0, 0) = 0; news(1, 0) = BAD; news(-1, 0) = BAD
                news(MIN, 0) = BAD; news(MAX, 0) = BAD; news(0, -1) = BAD; news(0, 3) = BAD; news(0, MIN) = BAD; news(0, MAX) = BAD
                silence(0) = NONE; news(0, 0) = BAD; silence(NONE) = 0; news(0, 1) = 5; back() = 1; back() = 0; news(0, 0) = BAD
                """);
        RUNS.of("10 BAD, behind the last of forty", "beats(0, 0, 40) = 40; news(39, 1) = 390; news(40, 1) = BAD");
    }

    private static void expected() throws Exception {
        RUNS.of("11 above (what = 0), below (1)", """
                beat(0) = 1; beat(1) = 2; expected(0, 0) = 10; expected(0, 1) = 1; expected(1, 0) = 41; expected(1, 1) = 2
                delay(1, 2) = 1; expected(1, 0) = 21; expected(1, 1) = 1
                """);
        RUNS.of("11 the soonest and the latest", """
                set(0, 1) = 10; beat(0) = 1; expected(0, 0) = 1; expected(0, 1) = 1; back() = 0
                set(0, 50) = 1; set(1, 16) = 4; beats(99, 0, 40) = 40; expected(39, 0) = 2099; expected(39, 1) = 1
                """);
        RUNS.of("11 BAD", """
                expected(0, 0) = BAD; beat(5) = 1; expected(1, 0) = BAD; expected(-1, 0) = BAD; expected(MIN, 0) = BAD
                expected(MAX, 0) = BAD; expected(0, -1) = BAD; expected(0, 2) = BAD; expected(0, MIN) = BAD; expected(0, MAX) = BAD
                expected(0, 0) = 15; expected(0, 1) = 1; delay(0, NONE) = 5; expected(0, 0) = BAD
                """);
        RUNS.of("11 BAD is the least long and 2 more", "expected(0, 0) = -9223372036854775806");
    }

    private static void score() throws Exception {
        RUNS.of("12 BAD (t 0 to 6000)", """
                score(-1, 0) = BAD; score(6001, 0) = BAD; score(MIN, 0) = BAD; score(MAX, 0) = BAD; score(0, 0) = NOT
                score(6000, 0) = NOT; set(0, 1) = 10; beat(1) = 1; beat(0) = 2; score(6000, 0) = 1; score(6001, 0) = BAD
                delay(0, 0) = 1; score(0, 0) = NOT; score(-1, 0) = BAD
                """);
        RUNS.of("12 BAD: neither above nor below", """
                beats(0, 0, 2) = 2; score(10, -1) = BAD; score(10, 2) = BAD; score(10, MIN) = BAD; score(10, MAX) = BAD
                score(10, 0) = 0; score(10, 1) = 1
                """);
        RUNS.of("12 NOT: no NEWS came", """
                score(0, 0) = NOT; score(6000, 1) = NOT; beat(NONE) = 1; score(6000, 0) = NOT; beats(5, 0, 2) = 2
                score(0, 0) = NOT; score(14, 0) = NOT; score(14, 1) = NOT; silence(0) = NONE; score(6000, 0) = NOT
                """);
        RUNS.of("12 or by the latest there are no GAPS", """
                beats(5, 0, 2) = 2; score(5, 0) = NOT; score(14, 0) = NOT; score(14, 1) = NOT; score(15, 0) = 0; score(15, 1) = 1
                silence(1) = NONE; score(15, 0) = NOT; score(6000, 1) = NOT
                """);
        // Both come at 10: the latest of them is the one by which there is a GAP.
        RUNS.of("12 two that came at once", """
                beat(10) = 1; beat(0) = 2; score(9, 0) = NOT; score(10, 0) = 0; score(10, 1) = 1; score(11, 0) = 1
                """);
        RUNS.of("12 BAD; NOT", "score(0, 2) = BAD; score(6001, 0) = BAD; score(-1, 1) = BAD; score(0, 1) = NOT");
        RUNS.of("12 NOT is the least long and 3 more", "score(0, 0) = -9223372036854775805; score(0, 2) = -9223372036854775806");
    }
}
