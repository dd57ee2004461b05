import java.lang.reflect.Method;
import java.lang.reflect.Modifier;
import java.util.ArrayList;
import java.util.List;
import java.util.Map;
import java.util.TreeMap;

/**
 * Runs of calls written as text, each on a new object: "beat(3) = 1". Several calls may stand in a
 * line, with ';' between them; what stands behind '#' is a comment. Answers may be told by name.
 * Each call is asked of a Model, too: what is written here by hand keeps the Model honest.
 */
final class Runs {
    /** A call of the face, with the answer that is due. */
    record Call(String text, Method ofClass, Method ofModel, Object[] arguments, long want) {
        long askClass(BeatDoubts x) throws Exception {
            return ask(ofClass, x, arguments);
        }

        long askModel(Model model) throws Exception {
            return ask(ofModel, model, arguments);
        }
    }

    private static final Map<String, Integer> NAMES = Map.of(
            "NONE", -1, "BAD", -2, "NOT", -3, "FULL", -4,
            "NULL", -11, "INDEX", -12, "CAST", -13, "STORE", -14, "SIZE", -15);
    private static final Map<String, Method> METHODS = new TreeMap<>();

    static {
        for (Method m : BeatDoubts.class.getDeclaredMethods()) {
            if (Modifier.isPublic(m.getModifiers())) {
                METHODS.put(m.getName(), m);
            }
        }
    }

    private int calls;
    private int wrong;

    void of(String name, String text) throws Exception {
        of(name, callsOf(text));
    }

    void of(String name, List<Call> run) throws Exception {
        BeatDoubts x = new BeatDoubts();
        Model model = new Model();
        for (Call call : run) {
            due(name + ": " + call.text, call.askClass(x), call.want);
            due(name + ": the Model's " + call.text, call.askModel(model), call.want);
        }
    }

    /** All calls of the face, in the same order every time, whatever the machine tells first. */
    static List<Method> face() {
        return new ArrayList<>(METHODS.values());
    }

    static Method ofModel(Method ofClass) throws Exception {
        return Model.class.getDeclaredMethod(ofClass.getName(), ofClass.getParameterTypes());
    }

    static long ask(Method call, Object whom, Object... arguments) throws Exception {
        return ((Number) call.invoke(whom, arguments)).longValue();
    }

    static List<Call> callsOf(String text) throws Exception {
        List<Call> run = new ArrayList<>();
        for (String line : text.split("\n")) {
            int comment = line.indexOf('#');
            String kept = comment < 0 ? line : line.substring(0, comment);
            for (String row : kept.split(";")) {
                if (!row.isBlank()) {
                    run.add(callOf(row.trim()));
                }
            }
        }
        return run;
    }

    private static Call callOf(String row) throws Exception {
        int sign = row.lastIndexOf('=');
        String text = row.substring(0, sign).trim();
        Method method = METHODS.get(text.substring(0, text.indexOf('(')));
        String inside = text.substring(text.indexOf('(') + 1, text.lastIndexOf(')'));
        List<Object> arguments = new ArrayList<>();
        for (String argument : inside.split(",")) {
            if (!argument.isBlank()) {
                arguments.add(argument(argument.trim()));
            }
        }
        long want = answer(row.substring(sign + 1).trim(), method.getReturnType() == long.class);
        return new Call(text, method, ofModel(method), arguments.toArray(), want);
    }

    private static int argument(String text) {
        switch (text) {
            case "MIN": return Integer.MIN_VALUE;
            case "MAX": return Integer.MAX_VALUE;
            case "NONE": return -1;
            default: return Integer.parseInt(text);
        }
    }

    private static long answer(String text, boolean isLong) {
        if (NAMES.containsKey(text)) {
            return isLong ? Long.MIN_VALUE - NAMES.get(text) : NAMES.get(text);
        }
        return text.equals("MIN") ? Integer.MIN_VALUE : Long.parseLong(text);
    }

    static int numberOf(String refusal) {
        return NAMES.getOrDefault(refusal, 0);
    }

    void due(String what, long got, long want) {
        calls++;
        if (got != want) {
            wrong++;
            System.out.println(what + " answered " + got + ", due is " + want);
        }
    }

    /** Ends with exit code 1 if an answer was not the one that is due. */
    void end(String test) {
        System.out.println(test + ": " + calls + " answers, " + wrong + " wrong");
        if (wrong != 0 || calls == 0) {
            System.exit(1);
        }
    }
}
