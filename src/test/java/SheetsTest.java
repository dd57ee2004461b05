/** Promises 26 to 33. */
public final class SheetsTest {
    private static final Runs RUNS = new Runs();

    public static void main(String[] args) throws Exception {
        sheet();
        lose();
        put();
        get();
        copy();
        write();
        found();
        count();
        RUNS.end("SheetsTest");
    }

    private static void sheet() throws Exception {
        RUNS.of("26 sheet", """
                sheet(-1, 0, 1) = BAD; sheet(4, 0, 1) = BAD; sheet(0, -1, 1) = BAD; sheet(0, 2, 1) = BAD
                sheet(0, 0, 41) = BAD; sheet(MIN, 0, 1) = BAD; sheet(MAX, 0, 1) = BAD; sheet(0, MIN, 1) = BAD
                sheet(0, MAX, 1) = BAD; sheet(0, 0, MAX) = BAD; count(8) = 0; get(0, 0) = NULL
                sheet(0, 0, -1) = SIZE; count(8) = 5; sheet(0, 0, MIN) = SIZE; sheet(4, 0, -1) = BAD; sheet(0, 2, -1) = BAD
                get(0, 0) = NULL; sheet(0, 0, 0) = 0; get(0, 0) = INDEX; sheet(0, 0, 40) = 40; get(0, 39) = 0; get(0, 40) = INDEX
                sheet(3, 1, 40) = 40; get(3, 0) = 0; get(3, 39) = 0; found(3, 0, 0) = 0
                put(0, 0, 2, 7) = 1; sheet(0, 0, -1) = SIZE; get(0, 2) = 7; sheet(0, 0, 41) = BAD; get(0, 2) = 7
                sheet(0, 0, 3) = 3; get(0, 2) = 0; get(0, 3) = INDEX; put(0, 0, 1, 9) = 1; sheet(0, 1, 2) = 2; get(0, 1) = 0
                put(0, 1, 1, 8) = 1; sheet(0, 0, 2) = 2; get(0, 1) = 0; sheet(0, 1, 2) = 2; get(0, 1) = 0
                """);
        RUNS.of("26 sheet, numbers again", """
                sheet(0, 1, 3) = 3; beats(1, 1, 2) = 2; write(0) = 1; found(0, 0, 0) = 1; sheet(0, 1, 3) = 3
                found(0, 0, 0) = 0; get(0, 0) = 0; get(0, 1) = 0
                """);
    }

    private static void lose() throws Exception {
        RUNS.of("27 lose", """
                lose(-1) = BAD; lose(4) = BAD; lose(MIN) = BAD; lose(MAX) = BAD; count(8) = 0
                lose(0) = NULL; count(8) = 1; sheet(0, 0, 7) = 7; lose(0) = 7; lose(0) = NULL; get(0, 0) = NULL
                sheet(3, 1, 0) = 0; lose(3) = 0; lose(3) = NULL; sheet(1, 1, 40) = 40; lose(1) = 40
                sheet(2, 0, 2) = 2; put(2, 0, 0, 5) = 1; lose(2) = 2; sheet(2, 0, 2) = 2; get(2, 0) = 0
                """);
    }

    private static void put() throws Exception {
        RUNS.of("28 put", """
                put(-1, 0, 0, 0) = BAD; put(4, 0, 0, 0) = BAD; put(0, -1, 0, 0) = BAD; put(0, 2, 0, 0) = BAD
                put(MIN, 0, 0, 0) = BAD; put(0, MAX, 0, 0) = BAD; count(8) = 0
                put(0, 0, 0, 0) = NULL; put(0, 1, -1, 0) = NULL; count(8) = 1
                sheet(0, 0, 2) = 2; sheet(1, 1, 2) = 2
                put(0, 1, 0, 5) = CAST; put(0, 1, 9, 5) = CAST; put(1, 0, 0, 5) = CAST; count(8) = 3
                put(0, 0, 2, 5) = INDEX; put(0, 0, -1, 5) = INDEX; put(1, 1, MAX, 5) = INDEX; put(1, 1, MIN, 5) = INDEX
                count(8) = 2; put(0, 3, 9, 5) = BAD; count(8) = 2; get(0, 0) = 0; get(1, 0) = 0
                put(0, 0, 0, MAX) = 1; get(0, 0) = 2147483647; put(0, 0, 1, MIN) = 1; get(0, 1) = -2147483648
                put(1, 1, 0, MAX) = 1; get(1, 0) = 2147483647; put(1, 1, 1, MIN) = 1; get(1, 1) = -2147483648
                put(1, 1, 0, -3) = 1; get(1, 0) = -3; found(1, 1, -4) = 1; found(1, 1, -3) = 0
                """);
        RUNS.of("28 put, over what is no number", """
                beat(1) = 1; sheet(0, 1, 1) = 1; write(0) = 0; get(0, 0) = NONE; put(0, 1, 0, 4) = 1; get(0, 0) = 4
                found(0, 0, 0) = 0
                """);
    }

    private static void get() throws Exception {
        RUNS.of("29 get", """
                get(-1, 0) = BAD; get(4, 0) = BAD; get(MIN, 0) = BAD; get(MAX, 0) = BAD; count(8) = 0
                get(1, 0) = NULL; get(1, -1) = NULL; count(8) = 1; sheet(1, 0, 2) = 2; get(1, 2) = INDEX; count(8) = 2
                get(1, -1) = INDEX; get(1, MIN) = INDEX; get(1, MAX) = INDEX; put(1, 0, 1, -1) = 1; get(1, 1) = -1
                """);
        // OFF of BEAT 3: 35 less 20 / 3 + 30, by 8: -13 and a third; that of BEAT 4: 50 less 45, by 8.
        RUNS.of("29 get, cut towards 0", """
                beat(4) = 1; beat(6) = 2; beat(10) = 3; beat(5) = 4; beat(10) = 5; sheet(0, 1, 5) = 5; write(0) = 4
                get(0, 0) = NONE; get(0, 1) = 16; get(0, 2) = 40; get(0, 3) = -13
                delay(3, 8) = 5; write(0) = 4; get(0, 3) = 10   # a third of 4, by 8
                """);
    }

    private static void copy() throws Exception {
        RUNS.of("30 copy", """
                copy(-1, 0, 0, 0, 0) = BAD; copy(4, 0, 0, 0, 0) = BAD; copy(0, 0, -1, 0, 0) = BAD; copy(0, 0, 4, 0, 0) = BAD
                copy(MIN, 0, 0, 0, 0) = BAD; copy(0, 0, MAX, 0, 0) = BAD; count(8) = 0
                copy(0, 0, 1, 0, 0) = NULL; sheet(0, 0, 5) = 5; copy(0, 0, 1, 0, 0) = NULL; copy(1, 0, 0, 0, 0) = NULL
                copy(0, 9, 1, 9, 9) = NULL; count(8) = 1; sheet(1, 1, 5) = 5
                copy(0, 0, 1, 0, 0) = STORE; copy(1, 9, 0, 9, -9) = STORE; count(8) = 4; sheet(2, 0, 3) = 3
                put(0, 0, 0, 10) = 1; put(0, 0, 1, 11) = 1; put(0, 0, 2, 12) = 1; put(0, 0, 3, 13) = 1; put(0, 0, 4, 14) = 1
                copy(0, 2, 2, 0, 3) = 1; get(2, 0) = 12; get(2, 1) = 13; get(2, 2) = 14
                copy(0, 0, 2, 2, 1) = 1; get(2, 2) = 10; get(2, 1) = 13
                copy(0, 5, 2, 3, 0) = 1; copy(0, 6, 2, 0, 0) = INDEX; copy(0, 0, 2, 4, 0) = INDEX; count(8) = 2
                copy(0, -1, 2, 0, 1) = INDEX; copy(0, 0, 2, -1, 1) = INDEX; copy(0, 0, 2, 0, -1) = INDEX
                copy(0, 3, 2, 0, 3) = INDEX; copy(0, 0, 2, 1, 3) = INDEX; copy(0, 1, 2, 1, MAX) = INDEX
                copy(0, MAX, 2, 0, 1) = INDEX; copy(0, MAX, 2, MAX, MAX) = INDEX; copy(0, MIN, 2, 0, MIN) = INDEX
                get(0, 0) = 10; get(2, 0) = 12; get(2, 1) = 13; get(2, 2) = 10
                """);
        RUNS.of("30 copy, to itself", """
                sheet(0, 0, 5) = 5
                put(0, 0, 0, 10) = 1; put(0, 0, 1, 11) = 1; put(0, 0, 2, 12) = 1; put(0, 0, 3, 13) = 1; put(0, 0, 4, 14) = 1
                copy(0, 0, 0, 1, 4) = 1; get(0, 0) = 10; get(0, 1) = 10; get(0, 2) = 11; get(0, 3) = 12; get(0, 4) = 13
                copy(0, 2, 0, 0, 3) = 1; get(0, 0) = 11; get(0, 1) = 12; get(0, 2) = 13; get(0, 3) = 12; get(0, 4) = 13
                copy(0, 0, 0, 0, 5) = 1; get(0, 0) = 11; get(0, 4) = 13; copy(0, 0, 0, 1, 5) = INDEX
                """);
        RUNS.of("30 copy, what is no number", """
                beats(3, 0, 2) = 2; sheet(0, 1, 3) = 3; write(0) = 1; put(0, 1, 1, 5) = 1; sheet(1, 1, 4) = 4
                copy(0, 0, 1, 2, 2) = 1; get(1, 2) = NONE; get(1, 3) = 5; found(1, 0, 0) = 1
                copy(0, 1, 1, 2, 1) = 1; get(1, 2) = 5; found(1, 0, 0) = 0
                copy(0, 0, 0, 1, 2) = 1; get(0, 0) = NONE; get(0, 1) = NONE; get(0, 2) = 5
                """);
    }

    private static void write() throws Exception {
        RUNS.of("31 write", """
                write(-1) = BAD; write(4) = BAD; write(MIN) = BAD; write(MAX) = BAD; count(8) = 0
                write(0) = NULL; count(8) = 1; sheet(0, 0, 3) = 3; write(0) = CAST; count(8) = 3
                sheet(0, 1, 3) = 3; write(0) = 0; found(0, 0, 0) = 0
                """ + BeatsTest.SEVEN + """
                sheet(1, 1, 9) = 9; put(1, 1, 0, 77) = 1; put(1, 1, 8, 77) = 1; write(1) = 4
                get(1, 0) = NONE; get(1, 1) = -80; get(1, 2) = -120; get(1, 3) = NONE; get(1, 4) = NONE
                get(1, 5) = 112; get(1, 6) = -108; get(1, 7) = 0; get(1, 8) = 77   # 25 - 35, 25 - 40, 59 - 45, 60 - 73.5
                put(0, 1, 0, 5) = 1; write(0) = 2; get(0, 0) = NONE; get(0, 1) = -80; get(0, 2) = -120; get(0, 3) = INDEX
                silence(50) = NONE; write(1) = 3; get(1, 4) = 120; get(1, 5) = NONE; get(1, 6) = NONE
                sheet(2, 1, 0) = 0; write(2) = 0
                """);
    }

    private static void found() throws Exception {
        RUNS.of("32 found", """
                found(-1, 0, 0) = BAD; found(4, 0, 0) = BAD; found(0, -1, 0) = BAD; found(0, 3, 0) = BAD
                found(MIN, 0, 0) = BAD; found(0, MAX, 0) = BAD; count(8) = 0
                found(0, 0, 0) = NULL; found(0, 3, 0) = BAD; count(8) = 1; sheet(0, 0, 3) = 3
                found(0, 0, 0) = CAST; found(0, 1, 0) = CAST; found(0, 2, 0) = CAST; count(8) = 3
                """ + BeatsTest.SEVEN + """
                sheet(1, 1, 8) = 8; write(1) = 4; found(1, 0, 5) = 3; found(1, 1, 0) = 1; found(1, 2, 0) = 3
                found(1, 1, 112) = 0; found(1, 1, 111) = 1; found(1, 2, -120) = 0; found(1, 2, -119) = 1
                found(1, 1, MIN) = 5; found(1, 2, MAX) = 5; found(1, 1, MAX) = 0; found(1, 2, MIN) = 0
                found(1, 1, -109) = 4; found(1, 1, -108) = 3; found(1, 2, -108) = 1; found(1, 2, -107) = 2
                """);
        RUNS.of("32 found, from the first to the last", """
                sheet(2, 1, 40) = 40; put(2, 1, 0, -1) = 1; put(2, 1, 39, -1) = 1; found(2, 2, 0) = 2; found(2, 1, -1) = 38
                put(2, 1, 0, 1) = 1; put(2, 1, 39, 1) = 1; found(2, 1, 0) = 2; found(2, 2, 1) = 38; found(2, 0, 0) = 0
                """);
        // OFF is four thirds: more than 10 by 8, less than 11 by 8.
        RUNS.of("32 found, between eighths", """
                beat(4) = 1; beat(6) = 2; beat(10) = 3; beat(8) = 4; sheet(0, 1, 4) = 4; write(0) = 3; put(0, 1, 1, 0) = 1
                put(0, 1, 2, 0) = 1; found(0, 1, 10) = 1; found(0, 1, 11) = 0; found(0, 2, 10) = 2; found(0, 2, 11) = 3
                """);
    }

    private static void count() throws Exception {
        RUNS.of("33 count", BeatsTest.SEVEN + """
                count(0) = 7; count(1) = 1; count(2) = 5; count(3) = 0; count(6) = 60
                watcher(0, 0) = 0; watcher(1, 10) = 1; watcher(2, 1) = 2; watcher(0, 14) = 3; count(3) = 4; count(4) = 3
                count(5) = 15; wish(1, 1, 0) = NONE; count(5) = 13; wish(0, 0, 0) = NONE; count(5) = 12; count(7) = 4
                silence(60) = NONE; count(1) = 2; count(2) = 4; count(6) = 59; silence(10) = 60; count(1) = 6
                count(2) = 1; count(4) = 0; count(6) = 25; count(7) = 3
                silence(0) = 10; count(0) = 7; count(1) = 7; count(2) = 0; count(6) = NONE; count(7) = 0
                count(9) = BAD; count(-1) = BAD; count(MIN) = BAD; count(MAX) = BAD
                """);
        RUNS.of("33 count, of what is there alone", BeatsTest.SEVEN + """
                watcher(2, 1) = 0; watcher(2, 1) = 1; wish(1, 0, 0) = NONE; count(4) = 2; count(5) = 1; count(7) = 2
                leaves() = 1; count(4) = 1; count(5) = 1; count(7) = 1
                back() = 6; back() = 5; back() = 4; count(1) = 1; back() = 3; count(1) = 0; count(2) = 3; count(6) = 25
                """);
        RUNS.of("33 count, FINDINGS", """
                count(8) = 0; lose(0) = NULL; count(8) = 1; sheet(0, 1, 2) = 2; count(8) = 1; get(0, 2) = INDEX; count(8) = 2
                read(0) = CAST; count(8) = 3; sheet(1, 0, 1) = 1; copy(0, 0, 1, 0, 0) = STORE; count(8) = 4
                sheet(0, 0, -5) = SIZE; count(8) = 5; get(9, 0) = BAD; back() = NOT; count(8) = 5; put(2, 0, 0, 0) = NULL
                count(8) = 1
                """);
    }
}
