import java.lang.reflect.Method;
import java.lang.reflect.Modifier;
import java.util.Arrays;
import java.util.HashMap;
import java.util.Map;

/** An object of the class and the plain model, asked the same calls: every answer has to be the model's. */
final class Pair {
    /** What later calls answer is free. */
    private static final int MOST_CALLS = 512;
    private static final Map<String, Method> OF_CLASS = callsOf(LampWays.class);
    private static final Map<String, Method> OF_MODEL = callsOf(Model.class);

    private final Due due;
    private final String name;
    private final LampWays lamps = new LampWays();
    private final Model model = new Model();
    private int calls;
    private boolean isWrong;

    Pair(Due due, String name) {
        this.due = due;
        this.name = name;
    }

    private static Map<String, Method> callsOf(Class<?> type) {
        Map<String, Method> found = new HashMap<>();
        for (Method m : type.getDeclaredMethods()) {
            if (!Modifier.isPrivate(m.getModifiers())) {
                found.put(m.getName(), m);
            }
        }
        return found;
    }

    static Class<?>[] parametersOf(String call) {
        return OF_CLASS.get(call).getParameterTypes();
    }

    Model model() {
        return model;
    }

    boolean hasCallsLeft(int some) {
        return calls + some <= MOST_CALLS && !isWrong;
    }

    /** Nothing is asked any more behind a wrong answer or the last call. */
    void ask(String call, Object... given) {
        if (!hasCallsLeft(1)) {
            return;
        }
        calls++;
        String label = name + ", call " + calls + ", " + call + Arrays.toString(given);
        try {
            long want = ((Number) OF_MODEL.get(call).invoke(model, given)).longValue();
            long got = ((Number) OF_CLASS.get(call).invoke(lamps, given)).longValue();
            isWrong = got != want;
            due.is(label, got, want);
        } catch (ReflectiveOperationException e) {
            isWrong = true;
            due.holds(label + " threw " + e.getCause(), false);
        }
    }
}
