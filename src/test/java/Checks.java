/** Counts answers that are not as due, and makes objects for tests. */
final class Checks {
    static final long LOST = Long.MIN_VALUE;
    static final int NULL = -11, CAST = -12, INDEX = -13, SIZE = -14;

    private int wrong;
    private int asked;

    void due(String call, long got, long want) {
        asked++;
        if (got != want) {
            wrong++;
            System.out.println(call + " answered " + got + ", due is " + want);
        }
    }

    /** An answer as due, counted without a text being made for it. */
    void alike() {
        asked++;
    }

    void same(String call, String got, String want) {
        asked++;
        if (!got.equals(want)) {
            wrong++;
            System.out.println(call + ": got " + got + ", due is " + want);
        }
    }

    /** A call that names faults: its answer, and what fault() tells behind it. */
    void dueFault(String call, ThunderAsks x, long got, long want, int fault) {
        due(call, got, want);
        due(call + ", then fault()", x.fault(), fault);
    }

    /** Prints how it went; exit code 1 if an answer was wrong. */
    void end(String test) {
        System.out.println(test + ": " + asked + " answers, " + wrong + " not as due");
        if (wrong != 0) {
            System.exit(1);
        }
    }

    static void write(ThunderAsks x, int k, int lane, int... cells) {
        x.sheet(k, lane, cells.length);
        for (int i = 0; i < cells.length; i++) {
            x.put(k, i, cells[i]);
        }
    }

    static int[] codes(String text) {
        int[] codes = new int[text.length()];
        for (int i = 0; i < codes.length; i++) {
            codes[i] = text.charAt(i);
        }
        return codes;
    }

    /** What county() answers to a text that is written on sheet 0 as bytes. */
    static int county(ThunderAsks x, String text) {
        write(x, 0, 0, codes(text));
        return x.county(0, 0, 0, text.length());
    }

    /** A new object with a county; sheet 0 has nothing again. */
    static ThunderAsks settled(String text) {
        ThunderAsks x = new ThunderAsks();
        if (county(x, text) < 0) {
            throw new IllegalStateException("no county by " + text);
        }
        x.lose(0);
        return x;
    }
}
