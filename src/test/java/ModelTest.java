import java.lang.reflect.Method;
import java.util.Random;

/** All promises: runs of 512 calls, by a fixed seed, answered as PlainModel answers them. */
public final class ModelTest {
    private static final int RUNS = 400;
    private static final int[] EDGES = {Integer.MIN_VALUE, -2, -1, 0, 1, 2, 3, 4, 5, 6, 9, 12, 13, 15, 16, 20, 21,
        59, 60, 61, 63, 64, 100, 255, 40000, Integer.MAX_VALUE};
    private static final String CODES = "d0123456,mbs789:/x";

    private static final Checks c = new Checks();
    private static final Random random = new Random(20261118);
    private static final Method[] calls = Beside.face();

    private static Beside both;

    public static void main(String[] args) throws Exception {
        for (int run = 0; run < RUNS; run++) {
            both = new Beside(c, "run " + run);
            while (both.callsLeft() > 0) {
                act(random.nextInt(40));
            }
        }
        c.end("ModelTest");
    }

    private static void call(String name, int... a) throws Exception {
        both.ask(name, a);
    }

    private static void act(int choice) throws Exception {
        if (choice == 0) {
            text();
        } else if (choice < 3) {
            storms();
        } else if (choice == 3) {
            likelyReadings();
        } else if (choice < 9) {
            wild();
        } else {
            fitting(calls[random.nextInt(calls.length)]);
        }
        if (random.nextInt(4) == 0) {
            call("fault");
        }
    }

    private static void text() throws Exception {
        StringBuilder text = new StringBuilder("d" + set() + (2 + random.nextInt(5)));
        int parishes = text.charAt(3) - '0';
        int men = 1 + random.nextInt(random.nextInt(8) == 0 ? 5 : 4);
        for (int m = 0; m < men; m++) {
            text.append(',').append("mmbs".charAt(random.nextInt(4))).append(random.nextInt(parishes)).append(set());
        }
        if (random.nextInt(3) == 0) {
            text.setCharAt(random.nextInt(text.length()), CODES.charAt(random.nextInt(CODES.length())));
        }
        if (random.nextInt(6) == 0) {
            text.setLength(random.nextInt(text.length() + 1));
        }
        int k = random.nextInt(4);
        int lane = random.nextInt(3);
        int ahead = random.nextInt(3);
        int[] cells = new int[ahead + text.length()];
        for (int t = 0; t < text.length(); t++) {
            cells[ahead + t] = text.charAt(t);
        }
        both.write(k, lane, cells);
        call("county", k, lane, ahead, text.length());
        for (int what = 0; what < 4; what++) {
            call("many", what);
        }
    }

    private static String set() {
        int set = random.nextInt(64);
        return (set < 10 ? "0" : "") + set;
    }

    private static void storms() throws Exception {
        int k = random.nextInt(4);
        int lane = random.nextInt(3);
        int n = random.nextInt(random.nextBoolean() ? 4 : 21);
        int[] cells = new int[2 * n];
        int few = 1 + random.nextInt(6);
        for (int t = 0; t < n; t++) {
            cells[2 * t] = random.nextInt(Math.max(1, Math.min(few, both.model.parishes)));
            cells[2 * t + 1] = random.nextInt(few);
        }
        if (n > 0 && random.nextInt(10) == 0) {
            cells[random.nextInt(2 * n)] = 6;
        }
        both.write(k, lane, cells);
        for (int what = 0; what < 3; what++) {
            call("storm", k, lane, 0, n, what);
        }
        for (int m = -1; m < 5; m++) {
            call("place", m, k, lane, 0, n);
        }
        for (int m = 0; m < 4; m++) {
            call("teach", m, k, lane, 0, n);
        }
        for (int which = 0; which < 2; which++) {
            call("fair", k, lane, 0, n, which);
        }
    }

    /** Mostly readings that are so, so that something is left by them. */
    private static void likelyReadings() throws Exception {
        for (int t = random.nextInt(4); t > 0; t--) {
            int p = random.nextInt(Math.max(1, both.model.parishes));
            int q = random.nextInt(6);
            boolean so = both.model.answer("strikes", new int[] {p, q}) == 1;
            call("reading", p, q, so == (random.nextInt(6) > 0) ? 1 : 0);
        }
        for (int what : new int[] {0, 1, 10, 13, 15}) {
            call("truths", what);
        }
        for (int m = 0; m < both.model.kind.length; m++) {
            call("stood", m);
            call("kinds", m);
            call("knew", m, 0);
            call("knew", m, 1);
        }
        call("back", random.nextInt(both.model.readings.size() + 1));
    }

    private static void wild() throws Exception {
        Method method = calls[random.nextInt(calls.length)];
        int[] a = new int[method.getParameterCount()];
        for (int t = 0; t < a.length; t++) {
            a[t] = EDGES[random.nextInt(EDGES.length)];
        }
        call(method.getName(), a);
    }

    private static void fitting(Method method) throws Exception {
        String name = method.getName();
        if (name.equals("lose") && random.nextInt(3) > 0) {
            return;
        }
        int[] a = new int[method.getParameterCount()];
        for (int t = 0; t < a.length; t++) {
            a[t] = random.nextInt(6) - (random.nextInt(8) == 0 ? 1 : 0);
        }
        if (name.equals("truths") && random.nextBoolean()) {
            a[0] += 10;
        }
        if ((name.equals("learn") || name.equals("truth")) && random.nextInt(8) > 0) {
            a[a.length - 1] = random.nextInt(64);
        }
        if (name.equals("worst") || name.equals("sheet")) {
            a[a.length - 1] = random.nextInt(14);
        }
        call(name, a);
    }
}
