import java.util.ArrayList;
import java.util.List;

/**
 * Two objects that are made alike; a call is made on the one, none on the other. All that can be
 * asked is asked of both behind it: what differs was changed by the call.
 */
final class Twins {
    /** A call, as a test tells it. */
    interface Call {
        long on(ThunderAsks x);
    }

    /** What there is ahead of the call. */
    enum Setting {
        /** No county; sheets as furnish() has them. */
        BARE,
        /** As few as there can be: two parishes, one man, no readings. */
        FEW,
        /** As many as there can be: six parishes, four men, eight readings. */
        MANY
    }

    /** What fault() tells in each setting: SIZE, which none of the calls beside sheet, county comes to. */
    static final int FAULT_BEFORE = 4;
    /** How many cells the bytes of sheet 0 and the shorts of sheet 1 have; sheet 2 has ints, none. */
    static final int BYTES = 5, SHORTS = 52;

    private Twins() {
    }

    static ThunderAsks make(Setting setting) {
        ThunderAsks x = new ThunderAsks();
        if (setting == Setting.FEW) {
            Checks.county(x, "d212,m043");
        }
        if (setting == Setting.MANY) {
            Checks.county(x, "d216,m043,b121,s409,m163");
            note(x, 0, 0, 1, 1, 1, 2, 4, 0, 4, 3, 5, 5, 0, 5, 0, 4);
            x.tell(2);
            x.hail(1);
        }
        furnish(x);
        x.sheet(0, 0, -1);
        return x;
    }

    /** Readings that are so, by pairs of a parish and a question. */
    private static void note(ThunderAsks x, int... pairs) {
        for (int t = 0; t < pairs.length; t += 2) {
            x.reading(pairs[t], pairs[t + 1], x.strikes(pairs[t], pairs[t + 1]) == 1);
        }
    }

    /**
     * Sheet 0: five bytes; sheet 1: 52 shorts, twenty pairs (0, 0) and then (-1, 0), (0, -1), (6, 6),
     * (0, 6), (2, 0), (0, 0); sheet 2: ints, none; sheet 3: nothing.
     */
    private static void furnish(ThunderAsks x) {
        Checks.write(x, 0, 0, 100, 50, 49, 50, 44);
        x.sheet(1, 1, SHORTS);
        int[] last = {-1, 0, 0, -1, 6, 6, 0, 6, 2, 0, 0, 0};
        for (int t = 0; t < last.length; t++) {
            x.put(1, 40 + t, last[t]);
        }
        x.sheet(2, 2, 0);
        x.lose(3);
    }

    /** What the call answers, what fault() tells then, and that nothing else is changed by it. */
    static void unchanged(Checks c, String told, Setting setting, Call call, long want, int fault) {
        String label = told + " (" + setting + ")";
        ThunderAsks asked = make(setting);
        c.due(label, call.on(asked), want);
        c.due(label + ", then fault()", asked.fault(), fault);
        List<String> got = state(asked);
        List<String> due = state(make(setting));
        for (int t = 0; t < due.size(); t++) {
            c.same(label + " changes nothing", got.get(t), due.get(t));
        }
    }

    /** All that can be asked but fault(); as many lines for any object. */
    private static List<String> state(ThunderAsks x) {
        List<String> told = new ArrayList<>();
        told.add("trace " + x.trace());
        for (int what = 0; what < 4; what++) {
            told.add("many " + what + ": " + x.many(what));
        }
        for (int m = 0; m < 4; m++) {
            told.add("man " + m + ": " + x.ofMan(m, 0) + " " + x.ofMan(m, 1) + " " + x.ofMan(m, 2));
        }
        for (int k = 0; k < 4; k++) {
            told.add("sheet " + k + ": " + cells(x, k));
        }
        // the readings go last, as they are taken back one by one
        for (int r = 0; r <= 8; r++) {
            told.add("readings less " + r + ": " + likely(x));
            x.back(1);
        }
        return told;
    }

    private static String cells(ThunderAsks x, int k) {
        StringBuilder told = new StringBuilder();
        for (int lane = 0; lane < 3; lane++) {
            long first = x.cell(k, 0, lane);
            int fault = x.fault();
            told.append(" lane ").append(lane).append(" fault ").append(fault);
            if (fault == 0) {
                told.append(" cells ").append(first);
            }
            for (int i = 1; fault == 0 && i <= 60; i++) {
                long cell = x.cell(k, i, lane);
                fault = x.fault();
                told.append(fault == 0 ? " " + cell : " end");
            }
        }
        return told.toString();
    }

    private static String likely(ThunderAsks x) {
        StringBuilder told = new StringBuilder();
        told.append(x.many(3)).append(" truths ").append(x.truths(0)).append(' ').append(x.truths(1));
        for (int m = 0; m < 4; m++) {
            told.append(", man ").append(m).append(": ").append(x.stood(m)).append(' ').append(x.kinds(m));
            told.append(' ').append(x.knew(m, 0)).append(' ').append(x.knew(m, 1));
        }
        return told.toString();
    }
}
