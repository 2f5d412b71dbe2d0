import java.math.BigInteger;
import java.util.ArrayList;
import java.util.HashSet;
import java.util.List;
import java.util.Set;
import java.util.function.BooleanSupplier;
import java.util.function.IntConsumer;
import java.util.regex.Matcher;
import java.util.regex.Pattern;

/**
 * The document's words put as directly as can be, with no thought of speed or room, to hold
 * ThunderAsks against. It shares no way of reckoning with it: men are asked one by one, texts are
 * read by a pattern, walks are walked.
 */
final class PlainModel {
    private static final String SET = "([0-5][0-9]|6[0-3])";
    private static final Pattern TEXT = Pattern.compile(textPattern());

    int truth;
    int parishes;
    int[] kind = {};
    int[] at = {};
    int[] list = {};
    final List<int[]> readings = new ArrayList<>();
    final int[][] sheets = new int[4][];
    final int[] lanes = new int[4];
    int trace;
    int fault;

    /** What a call that is refused or comes to a fault answers, carried out of the middle of it. */
    private static final class Refused extends RuntimeException {
        private static final long serialVersionUID = 1;
        final int answer;

        Refused(int answer) {
            super(null, null, false, false);
            this.answer = answer;
        }
    }

    private static String textPattern() {
        StringBuilder pattern = new StringBuilder();
        for (char last = '1'; last <= '5'; last++) {
            pattern.append(pattern.length() == 0 ? "" : "|");
            pattern.append("d" + SET + (char) (last + 1) + "(,[mbs][0-" + last + "]" + SET + "){1,4}");
        }
        return pattern.toString();
    }

    /** The answer to a call by its name; a refusal, too, LOST where a long is answered. */
    long answer(String name, int[] a) {
        boolean namesFaults = Set.of("county", "storm", "place", "teach", "fair", "sheet", "put", "cell",
            "copy", "as").contains(name);
        if (namesFaults) {
            fault = 0;
        }
        try {
            return dispatch(name, a);
        } catch (Refused refused) {
            if (refused.answer <= -11 && refused.answer >= -14) {
                fault = -10 - refused.answer;
            }
            return Set.of("fair", "odds", "cell").contains(name) ? Long.MIN_VALUE : refused.answer;
        }
    }

    private long dispatch(String name, int[] a) {
        switch (name) {
            case "county": return county(a[0], a[1], a[2], a[3]);
            case "ofMan": return ofMan(a[0], a[1]);
            case "truth": return newTruth(a[0]);
            case "stand": return stand(a[0], a[1]);
            case "learn": return learn(a[0], a[1]);
            case "answer": man(a[0]); question(a[1]); return said(a[0], a[1]);
            case "strikes": parish(a[0]); question(a[1]); return struck(a[0], a[1], 15) ? 1 : 0;
            case "dangers": parish(a[0]); return dangers(a[0], 15);
            case "storm": return storm(a[0], a[1], a[2], a[3], a[4]);
            case "place": return place(a[0], a[1], a[2], a[3], a[4]);
            case "teach": return teach(a[0], a[1], a[2], a[3], a[4]);
            case "worst": return worst(a[0], a[1]);
            case "fair": return fair(a[0], a[1], a[2], a[3], a[4]);
            case "worth": return worth(a[0]);
            case "reading": return reading(a[0], a[1], a[2]);
            case "back": return back(a[0]);
            case "truths": return truths(a[0]);
            case "stood": return stood(a[0]);
            case "kinds": return kinds(a[0]);
            case "knew": return knew(a[0], a[1]);
            case "odds": return odds(a[0], a[1], a[2]);
            case "sheet": return sheet(a[0], a[1], a[2]);
            case "lose": return lose(a[0]);
            case "put": return put(a[0], a[1], a[2]);
            case "cell": return cell(a[0], a[1], a[2]);
            case "copy": return copy(a[0], a[1], a[2], a[3], a[4]);
            case "tell": man(a[0]); return told(kind[a[0]], a[0]);
            case "hail": return hail(a[0]);
            case "as": return as(a[0], a[1]);
            case "trace": return trace;
            case "fault": return fault;
            case "many": return many(a[0]);
            default: throw new IllegalStateException(name);
        }
    }

    // refusals, as the terms tell them

    private static void need(boolean so, int answer) {
        if (!so) {
            throw new Refused(answer);
        }
    }

    private void man(int m) {
        need(0 <= m && m < kind.length, -1);
    }

    private void parish(int p) {
        need(0 <= p && p < parishes, -1);
    }

    private static void sheetNumber(int k) {
        need(0 <= k && k <= 3, -1);
    }

    private static void question(int q) {
        within(q, 0, 5);
    }

    private static void within(int number, int first, int last) {
        need(first <= number && number <= last, -2);
    }

    private void countyIsThere() {
        need(parishes != 0, -3);
    }

    private int[] row(int k, int lane, int i, int n) {
        need(sheets[k] == null || lanes[k] == lane, -12);
        need(sheets[k] != null, -11);
        need(n >= 0, -14);
        need(0 <= i && i <= sheets[k].length && (long) i + n <= sheets[k].length, -13);
        int[] taken = new int[n];
        for (int t = 0; t < n; t++) {
            taken[t] = sheets[k][i + t];
        }
        return taken;
    }

    // 1

    private int county(int k, int lane, int i, int n) {
        sheetNumber(k);
        within(lane, 0, 2);
        StringBuilder text = new StringBuilder();
        for (int code : row(k, lane, i, n)) {
            text.append(code < 0 || code > 127 ? '?' : (char) code);
        }
        for (int length = 1; length <= n; length++) {
            Matcher matcher = TEXT.matcher(text.substring(0, length));
            need(matcher.matches() || matcher.hitEnd(), -100 - (length - 1));
        }
        need(TEXT.matcher(text).matches(), -100 - n);
        String[] parts = text.toString().split(",");
        truth = Integer.parseInt(parts[0].substring(1, 3));
        parishes = Integer.parseInt(parts[0].substring(3));
        kind = new int[parts.length - 1];
        at = new int[parts.length - 1];
        list = new int[parts.length - 1];
        for (int m = 0; m < kind.length; m++) {
            kind[m] = "mbs".indexOf(parts[m + 1].charAt(0));
            at[m] = Integer.parseInt(parts[m + 1].substring(1, 2));
            list[m] = Integer.parseInt(parts[m + 1].substring(2));
        }
        readings.clear();
        return kind.length;
    }

    private int ofMan(int m, int what) {
        man(m);
        within(what, 0, 2);
        return new int[][] {kind, at, list}[what][m];
    }

    private int newTruth(int set) {
        within(set, 0, 63);
        countyIsThere();
        int was = truth;
        truth = set;
        return was;
    }

    private int stand(int m, int p) {
        man(m);
        parish(p);
        int was = at[m];
        at[m] = p;
        return was;
    }

    private int learn(int m, int set) {
        man(m);
        within(set, 0, 63);
        int was = list[m];
        list[m] = set;
        return was;
    }

    // 2

    private static boolean in(int k, int set) {
        return (set & 1 << k) != 0;
    }

    private int said(int m, int q) {
        int right = in(q, truth) ? 1 : 0;
        if (in(q, list[m])) {
            return kind[m] == 2 ? 1 - right : right;
        }
        return kind[m] == 1 ? 1 : -9;
    }

    private boolean struck(int p, int q, int awake) {
        boolean oneAnswers = false;
        for (int m = 0; m < kind.length; m++) {
            if (at[m] == p && in(m, awake) && said(m, q) != -9) {
                oneAnswers = true;
                if (said(m, q) != (in(q, truth) ? 1 : 0)) {
                    return true;
                }
            }
        }
        return !oneAnswers;
    }

    private int dangers(int p, int awake) {
        int set = 0;
        for (int q = 0; q < 6; q++) {
            set |= struck(p, q, awake) ? 1 << q : 0;
        }
        return set;
    }

    private int[] pairs(int k, int lane, int i, int n, boolean whatIsRight) {
        sheetNumber(k);
        within(lane, 0, 2);
        within(n, 0, 20);
        need(whatIsRight, -2);
        int[] pairs = row(k, lane, i, 2 * n);
        countyIsThere();
        for (int t = 0; t < n; t++) {
            parish(pairs[2 * t]);
            question(pairs[2 * t + 1]);
        }
        return pairs;
    }

    private int strikesOf(int[] pairs) {
        int count = 0;
        for (int t = 0; t < pairs.length; t += 2) {
            count += struck(pairs[t], pairs[t + 1], 15) ? 1 : 0;
        }
        return count;
    }

    private int storm(int k, int lane, int i, int n, int what) {
        int[] pairs = pairs(k, lane, i, n, 0 <= what && what <= 2);
        int first = -9;
        int set = 0;
        for (int t = n - 1; t >= 0; t--) {
            if (struck(pairs[2 * t], pairs[2 * t + 1], 15)) {
                first = t;
                set |= 1 << pairs[2 * t];
            }
        }
        return what == 0 ? strikesOf(pairs) : what == 1 ? first : set;
    }

    // 3

    private int place(int k, int sheet, int lane, int i, int n) {
        need(k >= -1, -1);
        int[] pairs = pairs(sheet, lane, i, n, true);
        if (k >= kind.length) {
            return -9;
        }
        int[] stood = at;
        int[] best = null;
        int fewest = 0;
        int rows = (int) Math.pow(parishes, kind.length);
        for (int row = 0; row < rows; row++) {
            at = new int[kind.length];
            int rest = row;
            for (int m = kind.length - 1; m >= 0; m--) {
                at[m] = rest % parishes;
                rest /= parishes;
            }
            if (best == null || strikesOf(pairs) < fewest) {
                best = at;
                fewest = strikesOf(pairs);
            }
        }
        at = stood;
        return k == -1 ? fewest : best[k];
    }

    private int teach(int m, int sheet, int lane, int i, int n) {
        man(m);
        int[] pairs = pairs(sheet, lane, i, n, true);
        int knew = list[m];
        for (int size = 0; size <= 6; size++) {
            for (int more = 0; more < 64; more++) {
                list[m] = knew | more;
                boolean good = Integer.bitCount(more) == size && strikesOf(pairs) == 0;
                list[m] = knew;
                if (good) {
                    return more;
                }
            }
        }
        return -9;
    }

    private int worst(int p, int n) {
        parish(p);
        within(n, 0, 12);
        // where one is and what is struck, as one number: all that can be so by the questions so far
        Set<Integer> states = new HashSet<>();
        for (int asked = 0; asked < n; asked++) {
            Set<Integer> next = new HashSet<>();
            if (asked == 0) {
                next.add(ask(p, 0));
            }
            for (int state : states) {
                for (int to = state % 8 - 1; to <= state % 8 + 1; to++) {
                    if (0 <= to && to < parishes) {
                        next.add(ask(to, state / 8));
                    }
                }
            }
            states = next;
        }
        int most = 0;
        for (int state : states) {
            most = Math.max(most, Integer.bitCount(state / 8));
        }
        return most;
    }

    private int ask(int p, int struck) {
        boolean strikes = dangers(p, 15) != 0;
        return (strikes ? struck | 1 << p : struck) * 8 + p;
    }

    private static long share(BigInteger upper, BigInteger lower, int which) {
        BigInteger divisor = upper.gcd(lower);
        return (which == 0 ? upper : lower).divide(divisor).longValueExact();
    }

    private long fair(int k, int lane, int i, int n, int which) {
        sheetNumber(k);
        within(lane, 0, 2);
        within(n, 0, 20);
        within(which, 0, 1);
        int[] row = row(k, lane, i, n);
        countyIsThere();
        BigInteger upper = BigInteger.ONE;
        for (int p : row) {
            parish(p);
            upper = upper.multiply(BigInteger.valueOf(6 - Integer.bitCount(dangers(p, 15))));
        }
        return share(upper, BigInteger.valueOf(6).pow(n), which);
    }

    private int worth(int m) {
        man(m);
        int worth = 100;
        for (int p = 0; p < parishes; p++) {
            worth += Integer.bitCount(dangers(p, 15 - (1 << m))) - Integer.bitCount(dangers(p, 15));
        }
        return worth;
    }

    // 4

    private int reading(int p, int q, int struck) {
        parish(p);
        question(q);
        need(readings.size() < 8, -4);
        readings.add(new int[] {p, q, struck});
        return readings.size() - 1;
    }

    private int back(int k) {
        within(k, 0, readings.size());
        for (int t = 0; t < k; t++) {
            readings.remove(readings.size() - 1);
        }
        return readings.size();
    }

    private boolean allSo() {
        for (int[] reading : readings) {
            if (struck(reading[0], reading[1], 15) != (reading[2] != 0)) {
                return false;
            }
        }
        return true;
    }

    private static List<Integer> those(int count, IntConsumer become, BooleanSupplier so, int was) {
        List<Integer> those = new ArrayList<>();
        for (int v = 0; v < count; v++) {
            become.accept(v);
            if (so.getAsBoolean()) {
                those.add(v);
            }
        }
        become.accept(was);
        return those;
    }

    private static int asSet(List<Integer> numbers) {
        int set = 0;
        for (int number : numbers) {
            set |= 1 << number;
        }
        return set;
    }

    private int truths(int what) {
        need(what == 0 || what == 1 || 10 <= what && what <= 15, -2);
        countyIsThere();
        List<Integer> truths = those(64, v -> truth = v, this::allSo, truth);
        if (what == 1) {
            return truths.isEmpty() ? -9 : truths.get(0);
        }
        return (int) truths.stream().filter(set -> what == 0 || in(what - 10, set)).count();
    }

    private int stood(int m) {
        man(m);
        return asSet(those(parishes, v -> at[m] = v, this::allSo, at[m]));
    }

    private int kinds(int m) {
        man(m);
        return asSet(those(3, v -> kind[m] = v, this::allSo, kind[m]));
    }

    private int knew(int m, int what) {
        man(m);
        within(what, 0, 1);
        List<Integer> lists = those(64, v -> list[m] = v, this::allSo, list[m]);
        if (what == 0) {
            return lists.size();
        }
        for (int size = 0; size <= 6; size++) {
            for (int set : lists) {
                if (Integer.bitCount(set) == size) {
                    return set;
                }
            }
        }
        return -9;
    }

    private long odds(int p, int q, int which) {
        parish(p);
        question(q);
        within(which, 0, 1);
        int held = 0;
        for (int awake = 0; awake < 1 << kind.length; awake++) {
            held += struck(p, q, awake) ? 0 : 1;
        }
        return share(BigInteger.valueOf(held), BigInteger.valueOf(1 << kind.length), which);
    }

    // 5

    private int sheet(int k, int lane, int n) {
        sheetNumber(k);
        within(lane, 0, 2);
        need(n <= 60, -2);
        need(n >= 0, -14);
        sheets[k] = new int[n];
        lanes[k] = lane;
        return 1;
    }

    private int lose(int k) {
        sheetNumber(k);
        boolean had = sheets[k] != null;
        sheets[k] = null;
        return had ? 1 : 0;
    }

    private int put(int k, int i, int v) {
        sheetNumber(k);
        need(sheets[k] != null, -11);
        need(0 <= i && i < sheets[k].length, -13);
        int bits = new int[] {24, 16, 0}[lanes[k]];
        sheets[k][i] = v << bits >> bits;
        return 1;
    }

    private long cell(int k, int i, int lane) {
        sheetNumber(k);
        within(lane, 0, 2);
        return row(k, lane, i, 1)[0];
    }

    private int copy(int k, int i, int other, int j, int n) {
        sheetNumber(k);
        sheetNumber(other);
        need(sheets[k] != null, -11);
        need(sheets[other] != null, -11);
        need(lanes[k] == lanes[other], -12);
        need(n >= 0, -13);
        int[] taken = row(k, lanes[k], i, n);
        row(other, lanes[other], j, n);
        for (int t = 0; t < n; t++) {
            sheets[other][j + t] = taken[t];
        }
        return n;
    }

    private int told(int body, int m) {
        trace = trace * 31 + body + 1;
        if (body == 0) {
            return at[m];
        }
        if (body == 1) {
            return told(0, m) + 100;
        }
        return told(1, m) + told(0, m);
    }

    private int hail(int m) {
        man(m);
        trace = trace * 31 + (kind[m] == 2 ? 5 : 4);
        return kind[m] == 2 ? 60 : m;
    }

    private int as(int m, int wanted) {
        man(m);
        within(wanted, 0, 2);
        need(wanted == 0 || wanted == kind[m] || wanted == 1 && kind[m] == 2, -12);
        return 1;
    }

    private int many(int what) {
        within(what, 0, 3);
        return new int[] {kind.length, parishes, truth, readings.size()}[what];
    }
}
