import java.lang.reflect.Method;
import java.util.ArrayList;
import java.util.HashMap;
import java.util.List;
import java.util.Map;

/**
 * Runs of calls written as text, each on a new object: "beat(3) = 1". Several calls may stand in a
 * line, with ';' between them; what stands behind '#' is a comment. Answers may be told by name.
 */
final class Runs {
    private static final Map<String, Integer> NAMES = Map.of(
            "NONE", -1, "BAD", -2, "NOT", -3, "FULL", -4,
            "NULL", -11, "INDEX", -12, "CAST", -13, "STORE", -14, "SIZE", -15);
    private static final Map<String, Method> METHODS = new HashMap<>();

    static {
        for (Method m : BeatDoubts.class.getDeclaredMethods()) {
            if (java.lang.reflect.Modifier.isPublic(m.getModifiers())) {
                METHODS.put(m.getName(), m);
            }
        }
    }

    private int calls;
    private int wrong;

    void of(String name, String text) throws Exception {
        BeatDoubts x = new BeatDoubts();
        for (String line : text.split("\n")) {
            int comment = line.indexOf('#');
            String kept = comment < 0 ? line : line.substring(0, comment);
            for (String call : kept.split(";")) {
                if (!call.isBlank()) {
                    ask(name, x, call.trim());
                }
            }
        }
    }

    private void ask(String name, BeatDoubts x, String row) throws Exception {
        int sign = row.lastIndexOf('=');
        String call = row.substring(0, sign).trim();
        Method method = METHODS.get(call.substring(0, call.indexOf('(')));
        String inside = call.substring(call.indexOf('(') + 1, call.lastIndexOf(')'));
        List<Object> arguments = new ArrayList<>();
        for (String argument : inside.split(",")) {
            if (!argument.isBlank()) {
                arguments.add(argument(argument.trim()));
            }
        }
        Object got = method.invoke(x, arguments.toArray());
        boolean isLong = method.getReturnType() == long.class;
        due(name + ": " + call, ((Number) got).longValue(), answer(row.substring(sign + 1).trim(), isLong));
    }

    private static int argument(String text) {
        switch (text) {
            case "MIN": return Integer.MIN_VALUE;
            case "MAX": return Integer.MAX_VALUE;
            case "NONE": return -1;
            default: return Integer.parseInt(text);
        }
    }

    private static long answer(String text, boolean isLong) {
        if (NAMES.containsKey(text)) {
            return isLong ? Long.MIN_VALUE - NAMES.get(text) : NAMES.get(text);
        }
        return text.equals("MIN") ? Integer.MIN_VALUE : Long.parseLong(text);
    }

    void due(String what, long got, long want) {
        calls++;
        if (got != want) {
            wrong++;
            System.out.println(what + " answered " + got + ", due is " + want);
        }
    }

    /** Ends with exit code 1 if an answer was not the one that is due. */
    void end(String test) {
        System.out.println(test + ": " + calls + " answers, " + wrong + " wrong");
        if (wrong != 0 || calls == 0) {
            System.exit(1);
        }
    }
}
