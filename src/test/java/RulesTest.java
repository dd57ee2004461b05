import java.lang.management.ManagementFactory;
import java.lang.reflect.Constructor;
import java.lang.reflect.Field;
import java.lang.reflect.Method;
import java.lang.reflect.Modifier;
import java.nio.file.Files;
import java.nio.file.Path;
import java.util.Set;
import java.util.TreeSet;
import java.util.regex.Matcher;
import java.util.regex.Pattern;

/** The face of the document, the rules of LANGUAGE.md that a program can look at, and the room. */
public final class RulesTest {
    private static final String SOURCE = "src/main/java/BeatDoubts.java";
    private static final Set<String> FACE = Set.of(
            "int beat(int)", "int beats(int,int,int)", "int delay(int,int)", "int back()", "int set(int,int)",
            "int silence(int)", "int read(int)", "int came(int,int)", "int news(int,int)", "long expected(int,int)",
            "long score(int,int)", "int watcher(int,int)", "int leaves()", "int measure(int,int)",
            "int wish(int,int,int)", "int info(int,int)", "int ledger(int,int,int)", "int limit(int,int)",
            "int doubts(int)", "int noticed(int)", "int least(int,int)", "int longest(int)", "int shared()",
            "int saved()", "int sheet(int,int,int)", "int lose(int)", "int put(int,int,int,int)", "long get(int,int)",
            "int copy(int,int,int,int,int)", "int write(int)", "int found(int,int,int)", "int count(int)",
            "long digest()");
    private static final String[] RULED_OUT = {"\\bimport\\b", "\\bpackage\\b", "\\bcatch\\b", "\\btry\\b",
        "\\bthrow\\b", "\\bfinally\\b", "\\bsynchronized\\b", "\\bassert\\b", "->", "::", "\\bDouble\\b", "Exact\\b",
        "\\bprotected\\b", "\\bSystem\\.", "\\bLong\\b", "\\bInteger\\b", "\\bNaN\\s*[;,)=]", "\\bvar\\b"};
    private static final Runs RUNS = new Runs();

    public static void main(String[] args) throws Exception {
        face();
        constants();
        insides();
        source();
        room();
        RUNS.end("RulesTest");
    }

    private static void holds(String what, boolean does) {
        RUNS.due(what, does ? 1 : 0, 1);
    }

    private static void face() {
        Class<?> c = BeatDoubts.class;
        holds("public and final", Modifier.isPublic(c.getModifiers()) && Modifier.isFinal(c.getModifiers()));
        Set<String> told = new TreeSet<>();
        Set<String> names = new TreeSet<>();
        for (Method m : c.getDeclaredMethods()) {
            if (Modifier.isPrivate(m.getModifiers())) {
                continue;
            }
            StringBuilder kinds = new StringBuilder();
            for (Class<?> p : m.getParameterTypes()) {
                kinds.append(kinds.length() == 0 ? "" : ",").append(p);
            }
            told.add(m.getReturnType() + " " + m.getName() + "(" + kinds + ")");
            names.add(m.getName());
        }
        holds("the methods of the document, no others: " + told, told.equals(FACE));
        for (Method m : c.getDeclaredMethods()) {
            boolean isPrivate = Modifier.isPrivate(m.getModifiers());
            holds("a name of its own: " + m, !isPrivate || !names.contains(m.getName()));
        }
        Constructor<?>[] constructors = c.getDeclaredConstructors();
        holds("one public constructor", constructors.length == 1 && Modifier.isPublic(constructors[0].getModifiers()));
    }

    private static void constants() throws Exception {
        RUNS.due("NONE", BeatDoubts.NONE, -1);
        RUNS.due("BAD", BeatDoubts.BAD, -2);
        RUNS.due("NOT", BeatDoubts.NOT, -3);
        RUNS.due("FULL", BeatDoubts.FULL, -4);
        Set<String> open = new TreeSet<>();
        for (Field f : BeatDoubts.class.getDeclaredFields()) {
            if (!Modifier.isPrivate(f.getModifiers())) {
                open.add(f.getName());
            }
        }
        holds("no other constants: " + open, open.equals(Set.of("NONE", "BAD", "NOT", "FULL")));
    }

    private static void insides() {
        Class<?>[] inside = BeatDoubts.class.getDeclaredClasses();
        holds("twelve classes at most", inside.length < 12);
        for (Class<?> c : inside) {
            holds("static: " + c, Modifier.isStatic(c.getModifiers()) && !Modifier.isPublic(c.getModifiers()));
            fields(c);
        }
        fields(BeatDoubts.class);
    }

    private static void fields(Class<?> c) {
        int many = 0;
        for (Field f : c.getDeclaredFields()) {
            boolean isStatic = Modifier.isStatic(f.getModifiers());
            many += isStatic ? 0 : 1;
            holds("static and not final: " + f, !isStatic || Modifier.isFinal(f.getModifiers()));
        }
        holds("twenty fields at most: " + c, many <= 20);
        for (Method m : c.getDeclaredMethods()) {
            holds("seven parameters at most: " + m, m.getParameterCount() <= 7);
        }
    }

    private static void source() throws Exception {
        String text = Files.readString(Path.of(SOURCE));
        String code = text.replaceAll("(?s)/\\*.*?\\*/", "").replaceAll("//[^\n]*", "");
        for (String ruledOut : RULED_OUT) {
            Matcher found = Pattern.compile(ruledOut).matcher(code);
            holds("ruled out: " + ruledOut, !found.find());
        }
        Matcher maths = Pattern.compile("\\bMath\\.(\\w+)").matcher(code);
        while (maths.find()) {
            holds("Math." + maths.group(1), Set.of("min", "max", "floorMod").contains(maths.group(1)));
        }
        holds("signs 1 to 127", text.chars().allMatch(sign -> sign >= 1 && sign <= 127));
    }

    /** No call makes an object, so a run needs no more room than its BeatDoubts. */
    private static void room() {
        BeatDoubts x = new BeatDoubts();
        for (int k = 0; k < 3; k++) {
            askAll(x, k);
        }
        com.sun.management.ThreadMXBean threads = (com.sun.management.ThreadMXBean) ManagementFactory.getThreadMXBean();
        long id = Thread.currentThread().getId();
        threads.getThreadAllocatedBytes(id);
        long before = threads.getThreadAllocatedBytes(id);
        for (int k = 0; k < 16; k++) {
            askAll(x, k);
        }
        long made = threads.getThreadAllocatedBytes(id) - before;
        holds("16 times all calls made " + made + " bytes", made < 4096);
        long start = threads.getThreadAllocatedBytes(id);
        BeatDoubts y = new BeatDoubts();
        made = threads.getThreadAllocatedBytes(id) - start;
        holds("a new object is small: " + made + " bytes", made < 16384 && y.count(0) == 0);
    }

    private static long askAll(BeatDoubts x, int k) {
        long sum = x.beat(k) + x.beats(3 * k, 7, 6) + x.delay(1, k) + x.set(0, 10 + k) + x.set(1, 3 + k);
        sum += x.silence(300) + x.sheet(0, 0, 12) + x.read(0) + x.came(1, 1) + x.news(1, 1) + x.expected(1, 0);
        sum += x.score(90, 0) + x.watcher(k % 4, 5) + x.watcher(1, 7) + x.measure(0, 6) + x.wish(0, 0, 70);
        sum += x.wish(0, 1, 4) + x.info(0, 7) + x.ledger(0, 0, 0) + x.limit(0, 1) + x.doubts(80) + x.noticed(0);
        sum += x.least(0, 1) + x.least(1, 1) + x.least(2, 1) + x.longest(0) + x.shared() + x.saved();
        sum += x.sheet(1, 1, 20) + x.write(1) + x.copy(1, 0, 1, 3, 9) + x.put(1, 1, 3, 4) + x.get(1, 4);
        sum += x.found(1, 1, 0) + x.lose(0) + x.count(5) + x.digest();
        if (k % 4 == 3) {
            sum += x.back() + x.leaves() + x.leaves();
        }
        return sum;
    }
}
