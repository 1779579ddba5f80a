import java.lang.reflect.InvocationTargetException;
import java.lang.reflect.Method;
import java.lang.reflect.Modifier;
import java.util.ArrayList;
import java.util.Arrays;
import java.util.List;
import java.util.Map;
import java.util.TreeMap;

/** The program and the oracle side by side: each call goes to both, and their answers must be alike. */
final class Pair {
    private static final Map<String, Method> PROGRAM = methods(Counted.class);
    private static final Map<String, Method> ORACLE = methods(Oracle.class);
    private static final List<Call> LOOKS = looks();

    private Counted program = new Counted();
    private final Oracle oracle = new Oracle();
    private final List<Call> calls = new ArrayList<>();
    private String fault;

    static List<String> names() {
        return new ArrayList<>(PROGRAM.keySet());
    }

    static Object ofProgram(Counted program, String name, Object... values) {
        return invoke(PROGRAM, program, name, values);
    }

    int size() {
        return calls.size();
    }

    boolean isWrong() {
        return fault != null;
    }

    String fault() {
        return fault;
    }

    /** Asks the oracle alone; it must be something that changes nothing. */
    int ofOracle(String name, Object... values) {
        return (Integer) invoke(ORACLE, oracle, name, values);
    }

    /** What the oracle answers. */
    Object call(String name, Object... values) {
        Call call = new Call(name, values);
        calls.add(call);
        Object due = invoke(ORACLE, oracle, name, values);
        Object got = invoke(PROGRAM, program, name, values);
        if (!due.equals(got) && fault == null) {
            fault = calls + "\ncall " + calls.size() + ": " + call + " answered " + got + ", due is " + due;
        }
        return due;
    }

    void lookAtAll() {
        List<Call> played = new ArrayList<>(calls);
        for (Call look : LOOKS) {
            if (program.calls() >= Counted.MOST_CALLS) {
                playAgain(played);
            }
            call(look.name, look.values);
        }
    }

    /** What is looked at changes nothing, so that one may go on looking at another object played alike. */
    private void playAgain(List<Call> played) {
        program = new Counted();
        calls.clear();
        for (Call call : played) {
            calls.add(call);
            invoke(PROGRAM, program, call.name, call.values);
        }
    }

    private static List<Call> looks() {
        List<Call> looks = new ArrayList<>();
        for (int k = 0; k < 4; k++) {
            looks.add(new Call("cause", k));
            looks.add(new Call("count", k));
            for (int set = 0; set < 128; set++) {
                looks.add(new Call("rank", k, set));
            }
            for (int i = 0; i < 65; i++) {
                looks.add(new Call("item", k, i));
            }
            for (int what = 0; what < 5; what++) {
                looks.add(new Call("held", k, what));
            }
            for (int t = 0; t < k; t++) {
                // -13 if they are of unlike sorts; it copies nothing
                looks.add(new Call("copy", k, 0, t, 0, 0));
            }
        }
        return looks;
    }

    private static Map<String, Method> methods(Class<?> type) {
        Map<String, Method> found = new TreeMap<>();
        for (Method method : type.getDeclaredMethods()) {
            int modifiers = method.getModifiers();
            boolean isOfFace = !Modifier.isPrivate(modifiers) && !Modifier.isStatic(modifiers);
            if (isOfFace && !method.getName().equals("calls")) {
                found.put(method.getName(), method);
            }
        }
        return found;
    }

    private static Object invoke(Map<String, Method> methods, Object on, String name, Object... values) {
        try {
            return methods.get(name).invoke(on, values);
        } catch (InvocationTargetException e) {
            return String.valueOf(e.getCause());
        } catch (IllegalAccessException e) {
            throw new IllegalStateException(e);
        }
    }

    private static final class Call {
        private final String name;
        private final Object[] values;

        Call(String name, Object... values) {
            this.name = name;
            this.values = values;
        }

        @Override
        public String toString() {
            return name + Arrays.toString(values);
        }
    }
}
