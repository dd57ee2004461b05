/** The edges that promises 26 to 33, and the words on SHEETS and FINDINGS, name: each run bears its words. */
public final class SheetsEdgesTest {
    private static final Runs RUNS = new Runs();
    /** SHEET 0 of five longs, 10 to 14; SHEET 1 of three longs; SHEET 2 of three doubles; SHEET 3 LOST. */
    private static final String ROWS = """
            sheet(0, 0, 5) = 5; sheet(1, 0, 3) = 3; sheet(2, 1, 3) = 3
            put(0, 0, 0, 10) = 1; put(0, 0, 1, 11) = 1; put(0, 0, 2, 12) = 1; put(0, 0, 3, 13) = 1; put(0, 0, 4, 14) = 1
            """;

    public static void main(String[] args) throws Exception {
        terms();
        findings();
        sheet();
        lose();
        put();
        get();
        copyRefused();
        copy();
        write();
        writeRefused();
        found();
        count();
        countOfTheRest();
        RUNS.end("SheetsEdgesTest");
    }

    private static void terms() throws Exception {
        RUNS.of("SHEETS 0 .. 3 are LOST (at first)", """
                get(0, 0) = NULL; get(1, 0) = NULL; get(2, 0) = NULL; get(3, 0) = NULL; get(-1, 0) = BAD; get(4, 0) = BAD
                """);
        RUNS.of("a row of a FORM: 0 longs, 1 doubles", """
                sheet(0, -1, 1) = BAD; sheet(0, 2, 1) = BAD; sheet(0, 0, 1) = 1; sheet(1, 1, 1) = 1; put(0, 0, 0, 5) = 1
                put(1, 1, 0, 5) = 1; put(0, 1, 0, 5) = CAST; put(1, 0, 0, 5) = CAST; read(0) = 1; found(1, 1, 4) = 1
                """);
        RUNS.of("of 0 to 40 items", """
                sheet(0, 0, 0) = 0; get(0, 0) = INDEX; lose(0) = 0; sheet(0, 0, 40) = 40; get(0, 39) = 0; get(0, 40) = INDEX
                sheet(1, 1, 0) = 0; get(1, 0) = INDEX; sheet(1, 1, 40) = 40; get(1, 39) = 0; get(1, 40) = INDEX
                sheet(0, 0, 41) = BAD; sheet(0, 0, -1) = SIZE; sheet(1, 1, 41) = BAD; sheet(1, 1, -1) = SIZE
                """);
        RUNS.of("items (0 at first), whatever the row was before", """
                sheet(0, 1, 3) = 3; put(0, 1, 0, 5) = 1; put(0, 1, 2, 6) = 1; sheet(0, 1, 3) = 3; get(0, 0) = 0; get(0, 2) = 0
                put(0, 1, 0, 5) = 1; lose(0) = 3; sheet(0, 1, 3) = 3; get(0, 0) = 0; beat(0) = 1; write(0) = 0; get(0, 0) = NONE
                sheet(0, 1, 3) = 3; get(0, 0) = 0; sheet(0, 0, 3) = 3; put(0, 0, 0, 5) = 1; sheet(0, 0, 3) = 3; get(0, 0) = 0
                """);
        RUNS.of("items (0 at first)", """
                sheet(0, 1, 40) = 40; found(0, 0, 0) = 0; found(0, 1, 0) = 0; found(0, 2, 0) = 0; found(0, 1, -1) = 40
                sheet(1, 0, 40) = 40; get(1, 0) = 0; get(1, 39) = 0; read(1) = 40; came(0, 0) = 0; came(39, 0) = 0
                """);
    }

    private static void findings() throws Exception {
        RUNS.of("FINDINGS (answers -10 less the number)", """
                lose(0) = -11; sheet(0, 0, 1) = 1; put(0, 0, 1, 0) = -12; put(0, 1, 0, 0) = -13; sheet(1, 1, 1) = 1
                copy(0, 0, 1, 0, 1) = -14; sheet(0, 0, -1) = -15
                """);
        RUNS.of("FINDINGS, where the answer is a long", """
                get(0, 0) = -9223372036854775797; sheet(0, 0, 1) = 1; get(0, 1) = -9223372036854775796
                get(4, 0) = -9223372036854775806
                """);
        RUNS.of("1 NULL: the SHEET is LOST", ROWS + """
                lose(3) = NULL; count(8) = 1; get(3, 0) = NULL; read(3) = NULL; write(3) = NULL; found(3, 0, 0) = NULL
                put(3, 0, 0, 0) = NULL; copy(3, 0, 0, 0, 1) = NULL; copy(0, 0, 3, 0, 1) = NULL; copy(3, 0, 3, 0, 0) = NULL
                sheet(3, 0, 0) = 0; lose(3) = 0; lose(3) = NULL; count(8) = 1
                """);
        RUNS.of("2 INDEX: there is no such item", ROWS + """
                put(0, 0, 5, 1) = INDEX; count(8) = 2; get(0, 5) = INDEX; get(0, -1) = INDEX; put(2, 1, 3, 1) = INDEX
                get(2, 3) = INDEX; copy(0, 0, 1, 0, 4) = INDEX; count(8) = 2
                """);
        RUNS.of("3 CAST: it has another FORM", ROWS + """
                put(0, 1, 0, 1) = CAST; count(8) = 3; put(2, 0, 0, 1) = CAST; read(2) = CAST; write(0) = CAST; found(0, 0, 0) = CAST
                """);
        RUNS.of("4 STORE: unlike FORMS", ROWS + "copy(0, 0, 2, 0, 1) = STORE; count(8) = 4; copy(2, 0, 0, 0, 0) = STORE; get(0, 0) = 10");
        RUNS.of("5 SIZE: below 0", ROWS + "sheet(0, 0, -1) = SIZE; count(8) = 5; sheet(3, 1, MIN) = SIZE; get(0, 0) = 10; lose(3) = NULL");
    }

    private static void sheet() throws Exception {
        RUNS.of("26 a SHEET is a new row of a FORM with n items: n", ROWS + """
                sheet(0, 0, 4) = 4; get(0, 0) = 0; get(0, 3) = 0; get(0, 4) = INDEX; sheet(0, 1, 2) = 2; get(0, 1) = 0
                put(0, 1, 0, 3) = 1; put(0, 0, 0, 3) = CAST; sheet(0, 0, 40) = 40; get(0, 0) = 0; get(0, 39) = 0
                """);
        RUNS.of("26 BAD: SHEET, FORM, above 40", ROWS + """
                sheet(-1, 0, 1) = BAD; sheet(4, 0, 1) = BAD; sheet(MIN, 0, 1) = BAD; sheet(MAX, 0, 1) = BAD
                sheet(0, -1, 1) = BAD; sheet(0, 2, 1) = BAD; sheet(0, MIN, 1) = BAD; sheet(0, MAX, 1) = BAD
                sheet(0, 0, 41) = BAD; sheet(0, 1, 41) = BAD; sheet(0, 0, MAX) = BAD; count(8) = 0; get(0, 4) = 14
                sheet(3, 1, 40) = 40; sheet(0, 0, 1) = 1
                """);
        RUNS.of("26 SIZE", ROWS + "sheet(0, 1, -1) = SIZE; sheet(0, 0, MIN) = SIZE; get(0, 4) = 14; put(0, 0, 0, 1) = 1; sheet(0, 0, 0) = 0");
        RUNS.of("26 BAD; SIZE", """
                sheet(4, 0, -1) = BAD; sheet(-1, 0, -1) = BAD; sheet(0, 2, -1) = BAD; sheet(0, -1, MIN) = BAD; count(8) = 0
                sheet(0, 0, -1) = SIZE; count(8) = 5
                """);
    }

    private static void lose() throws Exception {
        RUNS.of("27 how many items it had", """
                sheet(0, 0, 0) = 0; lose(0) = 0; sheet(0, 1, 40) = 40; lose(0) = 40; sheet(3, 0, 1) = 1; lose(3) = 1; get(3, 0) = NULL
                """);
        RUNS.of("27 BAD", "lose(-1) = BAD; lose(4) = BAD; lose(MIN) = BAD; lose(MAX) = BAD; count(8) = 0");
        RUNS.of("27 NULL", "lose(3) = NULL; count(8) = 1; sheet(3, 1, 2) = 2; lose(3) = 2; lose(3) = NULL; lose(0) = NULL");
    }

    private static void put() throws Exception {
        RUNS.of("28 item i becomes v", ROWS + """
                put(0, 0, 0, MAX) = 1; put(0, 0, 4, MIN) = 1; get(0, 0) = 2147483647; get(0, 4) = -2147483648; get(0, 1) = 11
                """);
        RUNS.of("28 of doubles v by 8", ROWS + """
                put(2, 1, 0, MAX) = 1; put(2, 1, 1, MIN) = 1; put(2, 1, 2, 1) = 1; get(2, 0) = 2147483647; get(2, 1) = -2147483648
                get(2, 2) = 1; found(2, 1, 0) = 2; found(2, 1, 1) = 1; found(2, 2, MIN) = 0; found(2, 1, MAX) = 0
                put(2, 1, 2, -1) = 1; get(2, 2) = -1; put(2, 1, 2, 0) = 1; get(2, 2) = 0
                """);
        RUNS.of("28 BAD", ROWS + """
                put(-1, 0, 0, 1) = BAD; put(4, 0, 0, 1) = BAD; put(MIN, 0, 0, 1) = BAD; put(MAX, 0, 0, 1) = BAD
                put(0, -1, 0, 1) = BAD; put(0, 2, 0, 1) = BAD; put(0, MIN, 0, 1) = BAD; put(0, MAX, 0, 1) = BAD; count(8) = 0
                """);
        RUNS.of("28 NULL", "put(0, 0, 0, 1) = NULL; count(8) = 1; put(3, 1, 0, 1) = NULL");
        RUNS.of("28 CAST", ROWS + "put(0, 1, 0, 1) = CAST; count(8) = 3; put(2, 0, 0, 1) = CAST; get(0, 0) = 10; get(2, 0) = 0");
        RUNS.of("28 INDEX", ROWS + """
                put(0, 0, -1, 1) = INDEX; count(8) = 2; put(0, 0, 5, 1) = INDEX; put(0, 0, MIN, 1) = INDEX; put(0, 0, MAX, 1) = INDEX
                put(2, 1, -1, 1) = INDEX; put(2, 1, 3, 1) = INDEX; put(2, 1, 2, 1) = 1; get(2, 2) = 1; sheet(3, 0, 0) = 0
                put(3, 0, 0, 1) = INDEX; sheet(3, 0, 40) = 40; put(3, 0, 39, 1) = 1; put(3, 0, 40, 1) = INDEX
                """);
        RUNS.of("28 BAD; NULL; CAST; INDEX", ROWS + """
                put(3, 2, 0, 1) = BAD; put(3, -1, 9, 1) = BAD; put(0, 2, 9, 1) = BAD; put(4, 1, 9, 1) = BAD; count(8) = 0
                put(3, 0, 9, 1) = NULL; put(3, 1, -1, 1) = NULL; count(8) = 1; put(0, 1, 9, 1) = CAST; put(2, 0, -1, 1) = CAST
                count(8) = 3; put(0, 0, 9, 1) = INDEX; count(8) = 2
                """);
    }

    private static void get() throws Exception {
        RUNS.of("29 a long itself", ROWS + "get(0, 0) = 10; get(0, 4) = 14; put(0, 0, 2, -1) = 1; get(0, 2) = -1");
        // OFF of BEAT 3 is a third more or less than a whole time: 8 times it is cut towards 0.
        RUNS.of("29 of a double 8 times it, cut as Java casts to a long", """
                beat(4) = 1; beat(6) = 2; beat(10) = 3; beat(8) = 4; sheet(0, 1, 4) = 4; write(0) = 3; get(0, 3) = 10
                delay(3, 6) = 8; write(0) = 3; get(0, 3) = -5; delay(3, 7) = 6; write(0) = 3; get(0, 3) = 2
                """);
        RUNS.of("29 NONE: it is no number (NaN)", """
                beat(5) = 1; sheet(0, 1, 2) = 2; write(0) = 0; get(0, 0) = -9223372036854775807; get(0, 1) = 0; count(8) = 0
                """);
        RUNS.of("29 BAD", "get(-1, 0) = BAD; get(4, 0) = BAD; get(MIN, 0) = BAD; get(MAX, 0) = BAD; count(8) = 0");
        RUNS.of("29 NULL", "get(0, 0) = NULL; count(8) = 1; get(3, 0) = NULL");
        RUNS.of("29 INDEX", ROWS + """
                get(0, -1) = INDEX; count(8) = 2; get(0, 5) = INDEX; get(0, MIN) = INDEX; get(0, MAX) = INDEX; get(2, 3) = INDEX
                get(2, 2) = 0; get(2, -1) = INDEX; sheet(3, 1, 0) = 0; get(3, 0) = INDEX
                """);
        RUNS.of("29 BAD; NULL; INDEX", "get(4, -1) = BAD; count(8) = 0; get(0, -1) = NULL; get(0, 40) = NULL; count(8) = 1");
    }

    private static void copyRefused() throws Exception {
        RUNS.of("30 BAD: the SHEETS", ROWS + """
                copy(-1, 0, 0, 0, 1) = BAD; copy(4, 0, 0, 0, 1) = BAD; copy(MIN, 0, 0, 0, 1) = BAD; copy(MAX, 0, 0, 0, 1) = BAD
                copy(0, 0, -1, 0, 1) = BAD; copy(0, 0, 4, 0, 1) = BAD; copy(0, 0, MIN, 0, 1) = BAD; copy(0, 0, MAX, 0, 1) = BAD
                copy(3, 0, 4, 0, 1) = BAD; copy(4, 0, 3, 0, 1) = BAD; count(8) = 0
                """);
        RUNS.of("30 NULL: s, t", ROWS + """
                copy(3, 0, 0, 0, 1) = NULL; count(8) = 1; copy(0, 0, 3, 0, 1) = NULL; copy(3, 0, 3, 0, 0) = NULL; copy(2, 0, 3, 0, 1) = NULL
                """);
        RUNS.of("30 STORE", ROWS + "copy(0, 0, 2, 0, 1) = STORE; count(8) = 4; copy(2, 0, 0, 0, 1) = STORE; copy(2, 0, 1, 0, 0) = STORE");
        RUNS.of("30 INDEX: i, j or n below 0", ROWS + """
                copy(0, -1, 1, 0, 1) = INDEX; count(8) = 2; copy(0, 0, 1, -1, 1) = INDEX; copy(0, 0, 1, 0, -1) = INDEX
                copy(0, MIN, 1, 0, 1) = INDEX; copy(0, 0, 1, MIN, 1) = INDEX; copy(0, 0, 1, 0, MIN) = INDEX
                copy(0, 1, 1, 1, -1) = INDEX; copy(0, -1, 1, 0, 0) = INDEX; copy(0, 0, 1, -1, 0) = INDEX; copy(0, 0, 0, 0, -1) = INDEX
                copy(0, -1, 1, -1, 2) = INDEX; get(1, 0) = 0
                """);
        RUNS.of("30 not so many there", ROWS + """
                copy(0, 0, 1, 0, 3) = 1; copy(0, 0, 1, 0, 4) = INDEX; copy(0, 2, 1, 0, 3) = 1; copy(0, 3, 1, 0, 3) = INDEX
                copy(0, 0, 1, 1, 2) = 1; copy(0, 0, 1, 1, 3) = INDEX; copy(1, 0, 0, 2, 3) = 1; copy(1, 0, 0, 3, 3) = INDEX
                copy(1, 1, 0, 0, 3) = INDEX; copy(0, 0, 0, 0, 5) = 1; copy(0, 0, 0, 0, 6) = INDEX; copy(0, 0, 0, 1, 5) = INDEX
                copy(0, 1, 0, 0, 5) = INDEX; copy(0, 0, 1, 0, MAX) = INDEX
                """);
        RUNS.of("30 not so many there, sums that run over", ROWS + """
                copy(0, 1, 1, 1, MAX) = INDEX; copy(0, MAX, 1, 0, 1) = INDEX; copy(0, 0, 1, MAX, 1) = INDEX
                copy(0, MAX, 1, MAX, MAX) = INDEX; copy(0, MAX, 0, 0, MAX) = INDEX; copy(0, MIN, 1, MIN, MIN) = INDEX; get(1, 1) = 0
                """);
        RUNS.of("30 of n 0, too: i or j above the size", ROWS + """
                copy(0, 5, 1, 3, 0) = 1; copy(0, 6, 1, 3, 0) = INDEX; copy(0, 5, 1, 4, 0) = INDEX; copy(0, 0, 1, 0, 0) = 1
                copy(0, MAX, 1, 0, 0) = INDEX; copy(0, 0, 1, MAX, 0) = INDEX; get(1, 0) = 0; sheet(3, 0, 0) = 0
                copy(3, 0, 3, 0, 0) = 1; copy(3, 1, 3, 0, 0) = INDEX; copy(3, 0, 3, 1, 0) = INDEX; copy(3, 0, 0, 5, 0) = 1
                """);
        RUNS.of("30 BAD; NULL; STORE; INDEX", ROWS + """
                copy(4, -1, 3, 0, 0) = BAD; copy(3, 0, 4, 0, -1) = BAD; count(8) = 0; copy(3, -1, 2, 0, 0) = NULL
                copy(0, 9, 3, 9, 9) = NULL; count(8) = 1; copy(0, -1, 2, 0, 0) = STORE; copy(0, 0, 2, 9, 9) = STORE; count(8) = 4
                copy(0, 0, 1, 9, 9) = INDEX; count(8) = 2
                """);
    }

    private static void copy() throws Exception {
        RUNS.of("30 n items of SHEET s, from i on, come to SHEET t, from j on: 1", ROWS + """
                copy(0, 3, 1, 1, 2) = 1; get(1, 0) = 0; get(1, 1) = 13; get(1, 2) = 14; copy(0, 0, 1, 0, 1) = 1; get(1, 0) = 10
                get(1, 1) = 13; get(0, 3) = 13
                """);
        RUNS.of("30 (perhaps s, as they were), onward", ROWS + """
                copy(0, 0, 0, 1, 4) = 1; get(0, 0) = 10; get(0, 1) = 10; get(0, 2) = 11; get(0, 3) = 12; get(0, 4) = 13
                """);
        RUNS.of("30 (perhaps s, as they were), back", ROWS + """
                copy(0, 1, 0, 0, 4) = 1; get(0, 0) = 11; get(0, 1) = 12; get(0, 2) = 13; get(0, 3) = 14; get(0, 4) = 14
                """);
        RUNS.of("30 (perhaps s, as they were), in place", ROWS + """
                copy(0, 0, 0, 0, 5) = 1; get(0, 0) = 10; get(0, 1) = 11; get(0, 2) = 12; get(0, 3) = 13; get(0, 4) = 14
                """);
        // OFF of BEAT 0 is no number; that of BEAT 1 is 2.
        RUNS.of("30 doubles, and what is no number", """
                beat(0) = 1; beat(2) = 2; sheet(0, 1, 3) = 3; write(0) = 1; sheet(1, 1, 2) = 2; copy(0, 0, 1, 0, 2) = 1
                get(1, 0) = NONE; get(1, 1) = 16; copy(0, 0, 0, 1, 2) = 1; get(0, 0) = NONE; get(0, 1) = NONE; get(0, 2) = 16
                copy(0, 1, 0, 0, 2) = 1; get(0, 0) = NONE; get(0, 1) = 16; get(0, 2) = 16
                """);
        RUNS.of("30 the most items", """
                sheet(0, 0, 40) = 40; sheet(1, 0, 40) = 40; put(0, 0, 0, 5) = 1; put(0, 0, 39, 6) = 1; copy(0, 0, 1, 0, 40) = 1
                get(1, 0) = 5; get(1, 39) = 6; copy(0, 0, 1, 0, 41) = INDEX; copy(0, 39, 1, 0, 1) = 1; get(1, 0) = 6
                copy(0, 40, 1, 40, 0) = 1; copy(0, 40, 1, 0, 1) = INDEX; copy(0, 41, 1, 0, 0) = INDEX
                """);
    }

    private static void write() throws Exception {
        // EXPECTED by NEWS 0: 14; BEAT 1 is LOST, BEAT 2 comes at 25, BEAT 3 behind BEAT 4.
        String five = "beat(4) = 1; beat(NONE) = 2; beat(5) = 3; beat(11) = 4; beat(0) = 5\n";
        RUNS.of("OFF of BEAT n: if it is NEWS, and not the first", five + """
                sheet(0, 1, 5) = 5; write(0) = 2; get(0, 0) = NONE; get(0, 1) = NONE; get(0, 2) = 88; get(0, 3) = NONE
                get(0, 4) = 44      # 25 less 14; 40 less (4 + 5) / 2 + 30
                """);
        RUNS.of("OFF of BEAT n: of those not sent, none", five + """
                sheet(0, 1, 5) = 5; silence(40) = NONE; write(0) = 2; get(0, 2) = 88; get(0, 3) = 52; get(0, 4) = NONE
                silence(20) = 40; write(0) = 0; found(0, 0, 0) = 5; silence(0) = 20; write(0) = 0; get(0, 0) = NONE
                """);
        RUNS.of("31 as many as there are items, and BEATS", five + """
                sheet(0, 1, 3) = 3; write(0) = 1; get(0, 2) = 88; get(0, 3) = INDEX; sheet(1, 1, 6) = 6; put(1, 1, 5, 7) = 1
                put(1, 1, 4, 7) = 1; write(1) = 2; get(1, 4) = 44; get(1, 5) = 7; back() = 4; put(1, 1, 4, 7) = 1; write(1) = 2
                get(1, 3) = 52; get(1, 4) = 7
                """);
        RUNS.of("31 no items; no BEATS", five + """
                sheet(0, 1, 0) = 0; write(0) = 0; sheet(1, 1, 1) = 1; write(1) = 0; get(1, 0) = NONE
                back() = 4; back() = 3; back() = 2; back() = 1; back() = 0; sheet(2, 1, 2) = 2; write(2) = 0; found(2, 0, 0) = 0
                """);
        RUNS.of("31 where there is none, no number: how many are numbers", """
                sheet(0, 1, 40) = 40; beats(3, 0, 40) = 40; write(0) = 39; found(0, 0, 0) = 1; get(0, 0) = NONE; get(0, 1) = 0
                get(0, 39) = 0; delay(39, NONE) = 3; write(0) = 38; get(0, 39) = NONE; delay(0, NONE) = 3; write(0) = 37
                """);
        RUNS.of("31 over numbers, and over what is none", five + """
                sheet(0, 1, 2) = 2; put(0, 1, 0, 9) = 1; put(0, 1, 1, 9) = 1; write(0) = 0; found(0, 0, 0) = 2; delay(1, 4) = NONE
                write(0) = 1; get(0, 0) = NONE; get(0, 1) = 0; found(0, 0, 0) = 1
                """);
        // OFF of BEAT 3 is 37 less 110 by 3: a third, between 2 by 8 and 3 by 8.
        RUNS.of("31 what is above by what is below, both as doubles", """
                beat(4) = 1; beat(6) = 2; beat(10) = 3; beat(7) = 4; sheet(0, 1, 4) = 4; write(0) = 3; get(0, 3) = 2
                found(0, 1, 2) = 3; found(0, 1, 3) = 2; put(0, 1, 1, 0) = 1; put(0, 1, 2, 0) = 1; found(0, 1, 2) = 1; found(0, 2, 3) = 3
                """);
    }

    private static void writeRefused() throws Exception {
        RUNS.of("31 BAD", "write(-1) = BAD; write(4) = BAD; write(MIN) = BAD; write(MAX) = BAD; count(8) = 0");
        RUNS.of("31 NULL", "write(0) = NULL; count(8) = 1; write(3) = NULL");
        RUNS.of("31 CAST", "beats(3, 0, 2) = 2; sheet(0, 0, 2) = 2; put(0, 0, 1, 9) = 1; write(0) = CAST; count(8) = 3; get(0, 1) = 9");
    }

    private static void found() throws Exception {
        // Items: no number, 10 less 10, 25 less 20: 0 and 5.
        String three = "beat(0) = 1; beat(0) = 2; beat(5) = 3; sheet(0, 1, 4) = 4; write(0) = 2\n";
        RUNS.of("32 how many items are no numbers (what = 0)", three + """
                found(0, 0, 0) = 1; found(0, 0, MAX) = 1; found(0, 0, MIN) = 1; sheet(1, 1, 0) = 0; found(1, 0, 0) = 0
                """);
        RUNS.of("32 how many are greater than v by 8 (1)", three + """
                found(0, 1, 40) = 0; found(0, 1, 39) = 1; found(0, 1, 0) = 1; found(0, 1, -1) = 3; found(0, 1, MIN) = 3
                found(0, 1, MAX) = 0; sheet(1, 1, 0) = 0; found(1, 1, MIN) = 0
                """);
        RUNS.of("32 less (2)", three + """
                found(0, 2, 0) = 0; found(0, 2, 1) = 2; found(0, 2, 40) = 2; found(0, 2, 41) = 3; found(0, 2, MAX) = 3
                found(0, 2, MIN) = 0; sheet(1, 1, 0) = 0; found(1, 2, MAX) = 0
                """);
        RUNS.of("32 greater, less: the first item and the last one, too", """
                sheet(0, 1, 40) = 40; put(0, 1, 0, -1) = 1; found(0, 2, 0) = 1; put(0, 1, 39, -1) = 1; found(0, 2, 0) = 2
                put(0, 1, 0, 1) = 1; found(0, 1, 0) = 1; put(0, 1, 39, 1) = 1; found(0, 1, 0) = 2
                """);
        RUNS.of("32 BAD", three + """
                found(-1, 0, 0) = BAD; found(4, 0, 0) = BAD; found(MIN, 0, 0) = BAD; found(MAX, 0, 0) = BAD
                found(0, -1, 0) = BAD; found(0, 3, 0) = BAD; found(0, MIN, 0) = BAD; found(0, MAX, 0) = BAD; count(8) = 0
                """);
        RUNS.of("32 NULL", "found(0, 0, 0) = NULL; count(8) = 1; found(3, 2, 0) = NULL");
        RUNS.of("32 CAST", "sheet(0, 0, 2) = 2; found(0, 0, 0) = CAST; found(0, 1, 0) = CAST; found(0, 2, 0) = CAST; count(8) = 3");
        RUNS.of("32 BAD; NULL; CAST", """
                found(0, 3, 0) = BAD; found(0, -1, 0) = BAD; sheet(1, 0, 2) = 2; found(1, 3, 0) = BAD; found(1, -1, 0) = BAD; count(8) = 0
                """);
    }

    private static void count() throws Exception {
        RUNS.of("33 BAD", "count(-1) = BAD; count(9) = BAD; count(MIN) = BAD; count(MAX) = BAD; count(8) = 0; count(0) = 0");
        RUNS.of("33 0 BEATS, 1 LOST ones (with those not sent), 2 NEWS", """
                count(0) = 0; count(1) = 0; count(2) = 0; beats(0, 0, 39) = 39; beat(NONE) = 40; count(0) = 40; count(1) = 1
                count(2) = 39; silence(10) = NONE; count(0) = 40; count(1) = 39; count(2) = 1; silence(0) = 10; count(1) = 40
                count(2) = 0
                """);
        RUNS.of("33 3 WATCHERS, 4 MISTAKES of all WATCHERS together", """
                count(3) = 0; count(4) = 0; beats(0, 0, 40) = 40; watcher(2, 1) = 0; count(4) = 39; watcher(2, 9) = 1; count(4) = 78
                watcher(2, 10) = 2; count(4) = 78; watcher(2, 1) = 3; watcher(2, 1) = 4; count(3) = 5; count(4) = 156
                leaves() = 4; count(4) = 117
                """);
        RUNS.of("33 5 who keeps WISHES, as bits", """
                count(5) = 0; beat(0) = 1; watcher(2, 1) = 0; count(5) = 1; watcher(2, 1) = 1; watcher(2, 1) = 2; watcher(2, 1) = 3
                watcher(2, 1) = 4; count(5) = 31; wish(0, 0, 0) = NONE; count(5) = 30; wish(4, 0, 0) = NONE; count(5) = 14
                wish(2, 0, 1) = NONE; count(5) = 14; wish(2, 0, 0) = 1; count(5) = 10
                """);
    }

    private static void countOfTheRest() throws Exception {
        RUNS.of("33 6 the time at which the last NEWS came (NONE)", """
                count(6) = NONE; beat(NONE) = 1; count(6) = NONE; delay(0, 0) = NONE; count(6) = 0; beat(99) = 2; count(6) = 109
                beat(0) = 3; count(6) = 20; silence(20) = NONE; count(6) = 109; silence(0) = 20; count(6) = NONE
                """);
        RUNS.of("33 7 WATCHERS who doubt for good", """
                count(7) = 0; watcher(1, 1) = 0; watcher(0, 0) = 1; watcher(2, 1) = 2; watcher(3, 0) = 3; watcher(0, 1) = 4
                count(7) = 0; beat(0) = 1; count(7) = 4; beat(0) = 2; count(7) = 5; silence(0) = NONE; count(7) = 0
                """);
        RUNS.of("33 8 the number of the latest FINDING (0 before any)", """
                count(8) = 0; beat(100) = BAD; back() = NOT; count(8) = 0; sheet(0, 0, -1) = SIZE; count(8) = 5; sheet(0, 0, 1) = 1
                count(8) = 5; get(0, 0) = 0; get(0, 1) = INDEX; count(8) = 2; write(0) = CAST; count(8) = 3; beat(100) = BAD
                count(8) = 3; lose(1) = NULL; count(8) = 1; sheet(1, 1, 1) = 1; copy(0, 0, 1, 0, 1) = STORE; count(8) = 4
                lose(0) = 1; count(8) = 4
                """);
    }
}
