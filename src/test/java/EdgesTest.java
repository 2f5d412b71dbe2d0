import java.lang.reflect.Method;
import java.util.HashMap;
import java.util.Map;
import java.util.Set;

/**
 * All promises: each call with all that comes of numbers just below, just above and far beyond what is
 * allowed, one argument by each other, as PlainModel answers it, where there is no county, a small one
 * and a full one.
 */
public final class EdgesTest {
    private static final int MIN = Integer.MIN_VALUE, MAX = Integer.MAX_VALUE;
    private static final int[] SHEET = {MIN, -1, 0, 1, 2, 3, 4, MAX}, LANE = {-1, 0, 1, 2, 3};
    private static final int[] PLACE = {MIN, -1, 0, 1, 5, 6, 12, 13, 40, 52, 53, MAX};
    private static final int[] COUNT = {MIN, -1, 0, 1, 2, 5, 6, 20, 21, 52, MAX};
    private static final int[] MAN = {MIN, -1, 0, 1, 2, 3, 4, MAX}, PARISH = {MIN, -1, 0, 1, 2, 4, 5, 6, MAX};
    private static final int[] QUESTION = {MIN, -1, 0, 1, 2, 3, 4, 5, 6, MAX}, SET = {MIN, -1, 0, 1, 62, 63, 64, MAX};
    private static final int[] WHAT = {MIN, -1, 0, 1, 2, 3, 4, MAX}, WHICH = {-1, 0, 1, 2}, TWO = {0, 1};
    private static final int[] VALUE = {MIN, -129, -128, -1, 0, 127, 128, 255, 256, 32767, 32768, 65536, MAX};
    private static final Set<String> CHANGING = Set.of("county", "truth", "stand", "learn", "reading", "back", "sheet",
        "lose", "put", "copy", "tell", "hail");

    private static final Checks c = new Checks();

    public static void main(String[] args) throws Exception {
        Map<String, int[][]> edges = edges();
        for (Method method : Beside.face()) {
            for (int setting = 0; setting < 3; setting++) {
                new EdgesTest(method.getName(), edges.get(method.getName()), setting).goOver();
            }
        }
        c.end("EdgesTest");
    }

    private static Map<String, int[][]> edges() {
        Map<String, int[][]> edges = new HashMap<>();
        edges.put("county", new int[][] {SHEET, LANE, PLACE, {MIN, -1, 0, 1, 5, 9, 23, 24, 25, 52, 60, MAX}});
        edges.put("ofMan", new int[][] {MAN, WHAT});
        edges.put("truth", new int[][] {SET});
        edges.put("stand", new int[][] {MAN, PARISH});
        edges.put("learn", new int[][] {MAN, SET});
        edges.put("answer", new int[][] {MAN, QUESTION});
        edges.put("strikes", new int[][] {PARISH, QUESTION});
        edges.put("dangers", new int[][] {PARISH});
        edges.put("storm", new int[][] {SHEET, LANE, PLACE, COUNT, {-1, 0, 1, 2, 3}});
        edges.put("place", new int[][] {{MIN, -2, -1, 0, 3, 4, MAX}, SHEET, LANE, PLACE, COUNT});
        edges.put("teach", new int[][] {{-1, 0, 1, 2, 3, 4}, SHEET, LANE, PLACE, COUNT});
        edges.put("worst", new int[][] {PARISH, {MIN, -1, 0, 1, 2, 3, 4, 5, 6, 7, 8, 11, 12, 13, MAX}});
        edges.put("fair", new int[][] {SHEET, LANE, PLACE, COUNT, WHICH});
        edges.put("worth", new int[][] {MAN});
        edges.put("reading", new int[][] {PARISH, QUESTION, TWO});
        edges.put("back", new int[][] {{MIN, -1, 0, 1, 2, 7, 8, 9, MAX}});
        edges.put("truths", new int[][] {{MIN, MIN + 10, -1, 0, 1, 2, 9, 10, 11, 12, 13, 14, 15, 16, MAX}});
        edges.put("stood", new int[][] {MAN});
        edges.put("kinds", new int[][] {MAN});
        edges.put("knew", new int[][] {MAN, WHAT});
        edges.put("odds", new int[][] {PARISH, QUESTION, WHICH});
        edges.put("sheet", new int[][] {SHEET, LANE, {MIN, -1, 0, 1, 59, 60, 61, MAX}});
        edges.put("lose", new int[][] {SHEET});
        edges.put("put", new int[][] {SHEET, PLACE, VALUE});
        edges.put("cell", new int[][] {SHEET, PLACE, LANE});
        edges.put("copy", new int[][] {{-1, 0, 1, 2, 3, 4}, PLACE, {-1, 0, 1, 2, 3, 4}, PLACE, COUNT});
        edges.put("tell", new int[][] {MAN});
        edges.put("hail", new int[][] {MAN});
        edges.put("as", new int[][] {MAN, WHAT});
        edges.put("trace", new int[][] {});
        edges.put("fault", new int[][] {});
        edges.put("many", new int[][] {WHAT});
        return edges;
    }

    private final String name;
    private final int[][] edges;
    private final int setting;
    private Beside both;

    private EdgesTest(String name, int[][] edges, int setting) {
        this.name = name;
        this.edges = edges;
        this.setting = setting;
    }

    /** Goes over all rows of arguments; an object that is changed by a call is looked at and left. */
    private void goOver() throws Exception {
        int[] at = new int[edges.length];
        boolean more = true;
        while (more) {
            if (both == null) {
                both = settle();
            }
            int[] a = new int[edges.length];
            for (int t = 0; t < a.length; t++) {
                a[t] = edges[t][at[t]];
            }
            long answer = both.ask(name, a);
            both.ask("fault");
            if (answer >= 0 && CHANGING.contains(name) || both.callsLeft() < 110) {
                look();
                both = null;
            }
            more = step(at);
        }
    }

    private boolean step(int[] at) {
        for (int t = at.length - 1; t >= 0; t--) {
            at[t]++;
            if (at[t] < edges[t].length) {
                return true;
            }
            at[t] = 0;
        }
        return false;
    }

    /** Sheet 0 has the text, 1 shorts, pairs that are right and then some that are not, 2 no ints, 3 nothing. */
    private Beside settle() throws Exception {
        Beside made = new Beside(c, "setting " + setting);
        String text = setting < 2 ? "d212,m043" : "d216,m043,b121,s409,m163";
        int[] codes = Checks.codes(text);
        made.write(0, 0, codes);
        if (setting > 0) {
            made.ask("county", 0, 0, 0, codes.length);
        }
        made.ask("sheet", 1, 1, 52);
        made.ask("put", 1, 1, 5);
        int[] last = {1, 5, -1, 0, 0, -1, 6, 6, 0, 6, 2, 0};
        for (int t = 0; t < last.length; t++) {
            made.ask("put", 1, 40 + t, last[t]);
        }
        made.ask("sheet", 2, 2, 0);
        if (setting == 2) {
            for (int[] pair : new int[][] {{0, 0}, {1, 1}, {1, 2}, {4, 0}, {4, 3}, {5, 5}, {0, 5}, {0, 4}}) {
                made.ask("reading", pair[0], pair[1], (int) made.ask("strikes", pair[0], pair[1]));
            }
            made.ask("tell", 2);
        }
        made.ask("sheet", 0, 0, -1);
        return made;
    }

    private void look() throws Exception {
        both.ask("trace");
        for (int what = 0; what < 4; what++) {
            both.ask("many", what);
        }
        for (int m = 0; m < 4; m++) {
            for (int what = 0; what < 3; what++) {
                both.ask("ofMan", m, what);
            }
            both.ask("stood", m);
            both.ask("knew", m, 0);
        }
        both.ask("truths", 0);
        for (int k = 0; k < 4; k++) {
            for (int i : new int[] {0, 4, 5, 8, 12, 40, 41, 51, 59}) {
                both.ask("cell", k, i, k % 3);
                both.ask("fault");
            }
        }
    }
}
