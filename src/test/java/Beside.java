import java.lang.reflect.Method;
import java.lang.reflect.Modifier;
import java.util.Arrays;
import java.util.HashMap;
import java.util.Map;

/** A ThunderAsks beside a PlainModel: both are asked the same, and have to answer alike. */
final class Beside {
    /** An object is used for no more calls than this. */
    static final int CALLS = 512;

    private static final Method[] FACE = face();
    private static final Map<String, Method> BY_NAME = byName();

    final PlainModel model = new PlainModel();
    private final ThunderAsks asks = new ThunderAsks();
    private final Checks checks;
    private final String label;
    private int left = CALLS;

    Beside(Checks checks, String label) {
        this.checks = checks;
        this.label = label;
    }

    /** The calls in an order that is the same on every machine. */
    static Method[] face() {
        Method[] open = Arrays.stream(ThunderAsks.class.getDeclaredMethods())
            .filter(method -> Modifier.isPublic(method.getModifiers())).toArray(Method[]::new);
        Arrays.sort(open, (a, b) -> a.getName().compareTo(b.getName()));
        return open;
    }

    private static Map<String, Method> byName() {
        Map<String, Method> methods = new HashMap<>();
        for (Method method : FACE) {
            methods.put(method.getName(), method);
        }
        return methods;
    }

    int callsLeft() {
        return left;
    }

    /** What is due; a call beyond the last that an object is used for is not made, and 0 is told. */
    long ask(String name, int... a) throws Exception {
        if (left <= 0) {
            return 0;
        }
        left--;
        Method method = BY_NAME.get(name);
        Object[] given = new Object[a.length];
        for (int t = 0; t < a.length; t++) {
            given[t] = method.getParameterTypes()[t] == boolean.class ? (Object) (a[t] != 0) : a[t];
        }
        long got = ((Number) method.invoke(asks, given)).longValue();
        long want = model.answer(name, a);
        if (got == want) {
            checks.alike();
        } else {
            checks.due(label + ": " + name + Arrays.toString(a), got, want);
        }
        return want;
    }

    void write(int k, int lane, int... cells) throws Exception {
        ask("sheet", k, lane, cells.length);
        for (int i = 0; i < cells.length; i++) {
            ask("put", k, i, cells[i]);
        }
    }
}
