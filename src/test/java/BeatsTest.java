/** Promises 1 to 12. */
public final class BeatsTest {
    /** NEWS 0 to 4 are BEATS 0, 1, 2 (all at 25), 5 (at 59), 6 (at 60); 3 is LOST, 4 comes at 60. */
    static final String SEVEN = """
            beat(25) = 1; beat(15) = 2; beat(5) = 3; beat(-1) = 4; beat(20) = 5; beat(9) = 6; beat(0) = 7
            """;

    private static final Runs RUNS = new Runs();

    public static void main(String[] args) throws Exception {
        newObject();
        beat();
        beats();
        delay();
        back();
        set();
        silence();
        read();
        came();
        newsOf();
        expected();
        score();
        RUNS.end("BeatsTest");
    }

    private static void newObject() throws Exception {
        RUNS.of("1 new object", """
                count(0) = 0; count(1) = 0; count(2) = 0; count(3) = 0; count(4) = 0; count(5) = 0
                count(6) = NONE; count(7) = 0; count(8) = 0
                set(0, 7) = 10; set(1, 7) = 4; silence(7) = NONE
                back() = NOT; leaves() = NOT; shared() = 50; saved() = MIN; doubts(0) = 0
                came(0, 0) = BAD; news(0, 0) = BAD; info(0, 0) = BAD
                get(0, 0) = NULL; get(1, 0) = NULL; get(2, 0) = NULL; get(3, 0) = NULL
                """);
    }

    private static void beat() throws Exception {
        RUNS.of("2 beat", """
                beat(0) = 1; beat(99) = 2; beat(-1) = 3
                beat(100) = BAD; beat(-2) = BAD; beat(MIN) = BAD; beat(MAX) = BAD
                count(0) = 3; came(0, 0) = 0; came(1, 0) = 99; came(2, 0) = NONE
                beats(1, 0, 36) = 36; beat(7) = 40; beat(7) = FULL; beat(-1) = FULL
                beat(100) = BAD; beat(-2) = BAD
                count(0) = 40; came(39, 0) = 7; count(8) = 0
                """);
    }

    private static void beats() throws Exception {
        RUNS.of("3 beats", """
                beats(98, 3, 4) = 4; came(0, 0) = 98; came(1, 0) = 1; came(2, 0) = 4; came(3, 0) = 7
                beats(1, -3, 3) = 3; came(4, 0) = 1; came(5, 0) = 98; came(6, 0) = 95
                beats(0, 99, 3) = 3; came(7, 0) = 0; came(8, 0) = 99; came(9, 0) = 98
                beats(99, -99, 3) = 3; came(10, 0) = 99; came(11, 0) = 0; came(12, 0) = 1
                beats(-1, 0, 1) = BAD; beats(100, 0, 1) = BAD; beats(0, -100, 1) = BAD
                beats(0, 100, 1) = BAD; beats(0, 0, 0) = BAD; beats(0, 0, 41) = BAD
                beats(0, 0, -1) = BAD; beats(MIN, 0, 1) = BAD; beats(0, MAX, 1) = BAD; beats(0, 0, MAX) = BAD
                count(0) = 13; beats(5, 1, 1) = 1; count(0) = 14; came(13, 0) = 5
                beats(1, 1, 40) = 26; count(0) = 40; came(14, 0) = 1; came(39, 0) = 26
                beats(1, 1, 1) = 0; beats(1, 1, 41) = BAD; count(0) = 40
                back() = 39; beats(77, 1, 2) = 1; came(39, 0) = 77
                """);
        RUNS.of("3 beats, all at once", "beats(0, 1, 40) = 40; count(0) = 40; beat(0) = FULL");
    }

    private static void delay() throws Exception {
        RUNS.of("4 delay", """
                delay(0, 1) = BAD
                beats(3, 1, 3) = 3; delay(1, 99) = 4; delay(1, -1) = 99; delay(1, 0) = -1; came(1, 0) = 0
                delay(3, 0) = BAD; delay(-1, 0) = BAD; delay(0, 100) = BAD; delay(0, -2) = BAD
                delay(MAX, 0) = BAD; delay(MIN, 0) = BAD; delay(0, MIN) = BAD; delay(2, MAX) = BAD
                came(0, 0) = 3; came(2, 0) = 5
                delay(0, 6) = 3; came(0, 1) = 6; delay(2, -1) = 5; count(2) = 2; delay(2, 5) = -1; count(2) = 3
                silence(10) = NONE; came(1, 0) = NONE; delay(1, 8) = 0; delay(1, 9) = 8; came(1, 0) = NONE
                silence(NONE) = 10; came(1, 0) = 9; came(1, 1) = 19
                """);
    }

    private static void back() throws Exception {
        RUNS.of("5 back", """
                back() = NOT
                beats(1, 1, 3) = 3; count(2) = 3; back() = 2; came(2, 0) = BAD; count(2) = 2; news(2, 0) = BAD
                beat(50) = 3; came(2, 0) = 50; back() = 2; back() = 1; back() = 0; back() = NOT; count(0) = 0
                """);
    }

    private static void set() throws Exception {
        RUNS.of("6 set", """
                set(0, 1) = 10; set(0, 50) = 1; set(0, 0) = BAD; set(0, 51) = BAD; set(0, 20) = 50
                set(1, 1) = 4; set(1, 16) = 1; set(1, 0) = BAD; set(1, 17) = BAD; set(1, 5) = 16
                set(2, 5) = BAD; set(-1, 5) = BAD; set(0, -1) = BAD; set(1, MIN) = BAD; set(0, MAX) = BAD
                set(MIN, 1) = BAD; set(MAX, 1) = BAD; set(1, 5) = 5; set(0, 20) = 20
                beats(3, 0, 3) = 3; came(2, 1) = 43; set(0, 50) = 20; came(2, 1) = 103; expected(2, 0) = 153
                """);
    }

    private static void silence() throws Exception {
        RUNS.of("7 silence", """
                silence(0) = NONE; silence(5000) = 0; silence(5001) = BAD; silence(-2) = BAD
                silence(MIN) = BAD; silence(MAX) = BAD; silence(-1) = 5000; silence(20) = NONE
                beats(1, 0, 4) = 4; count(1) = 2; count(2) = 2; silence(21) = 20; count(1) = 1
                silence(30) = 21; count(1) = 1; silence(31) = 30; count(1) = 0; silence(0) = 31; count(1) = 4
                silence(5) = 0; count(1) = 3; silence(NONE) = 5; count(1) = 0
                """);
    }

    private static void read() throws Exception {
        RUNS.of("8 read", """
                read(-1) = BAD; read(4) = BAD; read(MIN) = BAD; read(MAX) = BAD; count(8) = 0
                read(0) = NULL; count(8) = 1; sheet(0, 1, 3) = 3; read(0) = CAST; count(8) = 3; count(0) = 0
                sheet(0, 0, 5) = 5; put(0, 0, 0, 99) = 1; put(0, 0, 1, -1) = 1; put(0, 0, 3, -2) = 1
                read(0) = 3; count(0) = 3; came(0, 0) = 99; came(1, 0) = NONE; came(2, 0) = 0
                put(0, 0, 3, 100) = 1; read(0) = 3; count(0) = 6
                put(0, 0, 0, MAX) = 1; read(0) = 0; put(0, 0, 0, MIN) = 1; read(0) = 0; count(0) = 6
                sheet(1, 0, 0) = 0; read(1) = 0
                sheet(2, 0, 40) = 40; read(2) = 34; count(0) = 40; read(2) = 0; read(3) = NULL
                """);
        RUNS.of("8 read, all at once", "sheet(3, 0, 40) = 40; read(3) = 40; count(0) = 40");
    }

    private static void came() throws Exception {
        RUNS.of("9 came", SEVEN + """
                came(0, 0) = 25; came(0, 1) = 25; came(0, 2) = 0
                came(1, 0) = 15; came(1, 1) = 25; came(1, 2) = 1
                came(2, 0) = 5; came(2, 1) = 25; came(2, 2) = 2
                came(3, 0) = NONE; came(3, 1) = NONE; came(3, 2) = NONE
                came(4, 0) = 20; came(4, 1) = 60; came(4, 2) = NONE
                came(5, 1) = 59; came(5, 2) = 3; came(6, 1) = 60; came(6, 2) = 4
                came(7, 0) = BAD; came(-1, 0) = BAD; came(0, 3) = BAD; came(0, -1) = BAD
                came(MIN, 0) = BAD; came(MAX, 0) = BAD; came(0, MIN) = BAD; came(0, MAX) = BAD
                silence(50) = NONE; came(5, 0) = NONE; came(5, 1) = NONE; came(5, 2) = NONE; came(4, 2) = 3
                silence(51) = 50; came(5, 0) = 9; came(5, 2) = 3; came(6, 0) = NONE; came(4, 2) = NONE
                """);
    }

    private static void newsOf() throws Exception {
        RUNS.of("10 news", "news(0, 0) = BAD\n" + SEVEN + """
                news(0, 0) = 0; news(1, 0) = 1; news(2, 0) = 2; news(3, 0) = 5; news(4, 0) = 6
                news(0, 1) = 25; news(2, 1) = 25; news(3, 1) = 59; news(4, 1) = 60
                news(0, 2) = 0; news(1, 2) = 1; news(2, 2) = 2; news(3, 2) = 3; news(4, 2) = 4
                set(1, 2) = 4; news(1, 2) = 1; news(2, 2) = 2; news(4, 2) = 2
                news(5, 0) = BAD; news(-1, 0) = BAD; news(0, 3) = BAD; news(0, -1) = BAD
                news(MIN, 0) = BAD; news(MAX, 0) = BAD; news(0, MIN) = BAD; news(0, MAX) = BAD
                """);
        // Six BEATS, the last of which overtakes all others.
        RUNS.of("10 news, all overtaken", """
                set(0, 1) = 10; beats(99, 0, 5) = 5; beat(0) = 6; count(2) = 1; news(0, 0) = 5; news(0, 1) = 5
                """);
    }

    private static void expected() throws Exception {
        RUNS.of("11 expected", "expected(0, 0) = BAD\n" + SEVEN + """
                expected(0, 0) = 35; expected(0, 1) = 1
                expected(1, 0) = 40; expected(1, 1) = 1
                expected(2, 0) = 45; expected(2, 1) = 1
                expected(3, 0) = 147; expected(3, 1) = 2   # (25 + 15 + 5 + 9) / 4 + 60
                expected(4, 0) = 309; expected(4, 1) = 4   # (15 + 5 + 9 + 0) / 4 + 70
                set(1, 3) = 4; expected(4, 0) = 224; expected(4, 1) = 3   # (5 + 9 + 0) / 3 + 70
                set(1, 16) = 3; expected(4, 0) = 404; expected(4, 1) = 5  # 54 / 5 + 70
                set(1, 1) = 16; expected(3, 0) = 69; expected(3, 1) = 1
                expected(5, 0) = BAD; expected(-1, 0) = BAD; expected(0, 2) = BAD; expected(0, -1) = BAD
                expected(MIN, 1) = BAD; expected(MAX, 1) = BAD; expected(0, MIN) = BAD; expected(0, MAX) = BAD
                """);
    }

    private static void score() throws Exception {
        RUNS.of("12 score", "score(0, 0) = NOT; score(0, 1) = NOT; score(0, 2) = BAD; score(6001, 0) = BAD\n"
                + SEVEN + """
                score(0, 0) = NOT; score(24, 0) = NOT; score(24, 1) = NOT
                score(25, 0) = 0; score(25, 1) = 1; score(26, 0) = 1; score(26, 1) = 1
                score(58, 0) = 1; score(59, 0) = 0; score(59, 1) = 1; score(60, 0) = 0; score(60, 1) = 1
                score(61, 0) = 1; score(61, 1) = 2; score(62, 0) = 3; score(62, 1) = 4
                score(94, 0) = 3; score(94, 1) = 4; score(95, 0) = 1; score(95, 1) = 1
                score(6000, 0) = 1; score(6000, 1) = 1
                set(1, 3) = 4; score(61, 0) = 1; score(61, 1) = 3; score(62, 0) = 2; score(62, 1) = 3
                score(6001, 0) = BAD; score(-1, 0) = BAD; score(0, 2) = BAD; score(0, -1) = BAD
                score(MIN, 0) = BAD; score(MAX, 0) = BAD; score(9, MIN) = BAD; score(9, MAX) = BAD
                """);
        RUNS.of("12 score, one NEWS alone", "beat(4) = 1; score(4, 0) = NOT; score(6000, 1) = NOT");
    }
}
