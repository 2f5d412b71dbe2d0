/** Promises 23 to 33. */
public final class SheetsTest {
    private static final Checks c = new Checks();

    public static void main(String[] args) {
        sheet();
        lose();
        put();
        cell();
        copy();
        copyRefusals();
        tellHailTrace();
        as();
        fault();
        many();
        c.end("SheetsTest");
    }

    private static void sheet() {
        ThunderAsks x = new ThunderAsks();
        c.dueFault("sheet(4, 3, -1)", x, x.sheet(4, 3, -1), -1, 0);
        c.dueFault("sheet(-1, 0, 0)", x, x.sheet(-1, 0, 0), -1, 0);
        c.dueFault("sheet(0, 3, -1)", x, x.sheet(0, 3, -1), -2, 0);
        c.dueFault("sheet(0, -1, 0)", x, x.sheet(0, -1, 0), -2, 0);
        c.dueFault("sheet(0, 0, 61)", x, x.sheet(0, 0, 61), -2, 0);
        c.dueFault("sheet(0, 0, -1)", x, x.sheet(0, 0, -1), Checks.SIZE, 4);
        c.due("it has nothing yet", x.lose(0), 0);
        c.dueFault("sheet(0, 0, 60)", x, x.sheet(0, 0, 60), 1, 0);
        c.due("the last cell", x.cell(0, 59, 0), 0);
        x.put(0, 59, 7);
        c.due("sheet(0, 0, -1)", x.sheet(0, 0, -1), Checks.SIZE);
        c.due("the row as it was", x.cell(0, 59, 0), 7);
        c.due("sheet(0, 2, 60)", x.sheet(0, 2, 60), 1);
        c.due("a new row", x.cell(0, 59, 2), 0);
        c.due("sheet(3, 1, 0)", x.sheet(3, 1, 0), 1);
        c.dueFault("no cell", x, x.cell(3, 0, 1), Checks.LOST, 3);
    }

    private static void lose() {
        ThunderAsks x = new ThunderAsks();
        c.due("lose(0), nothing", x.lose(0), 0);
        x.sheet(0, 0, 0);
        c.due("lose(0)", x.lose(0), 1);
        c.due("lose(0) again", x.lose(0), 0);
        c.due("lose(4)", x.lose(4), -1);
        c.due("lose(-1)", x.lose(-1), -1);
        x.put(0, 0, 0);
        x.lose(0);
        c.due("lose names no faults", x.fault(), 1);
    }

    private static void put() {
        ThunderAsks x = new ThunderAsks();
        c.dueFault("put(4, -1, 0)", x, x.put(4, -1, 0), -1, 0);
        c.dueFault("put(-1, 0, 0)", x, x.put(-1, 0, 0), -1, 0);
        c.dueFault("put(0, -1, 0)", x, x.put(0, -1, 0), Checks.NULL, 1);
        x.sheet(0, 0, 2);
        c.dueFault("put(0, -1, 0)", x, x.put(0, -1, 0), Checks.INDEX, 3);
        c.dueFault("put(0, 2, 0)", x, x.put(0, 2, 0), Checks.INDEX, 3);
        c.dueFault("put(0, 1, 5)", x, x.put(0, 1, 5), 1, 0);
        c.due("cell(0, 1, 0)", x.cell(0, 1, 0), 5);
        x.sheet(1, 2, 0);
        c.dueFault("put to a row of none", x, x.put(1, 0, 0), Checks.INDEX, 3);
    }

    private static void cell() {
        ThunderAsks x = new ThunderAsks();
        int[] values = {0, 127, 128, -128, -129, 255, 256, 32767, 32768, -32768, -32769, 65535, 65536,
            Integer.MAX_VALUE, Integer.MIN_VALUE};
        for (int lane = 0; lane < 3; lane++) {
            Checks.write(x, lane, lane, values);
        }
        for (int i = 0; i < values.length; i++) {
            c.due("bytes " + values[i], x.cell(0, i, 0), (byte) values[i]);
            c.due("shorts " + values[i], x.cell(1, i, 1), (short) values[i]);
            c.due("ints " + values[i], x.cell(2, i, 2), values[i]);
        }
        long lost = Checks.LOST;
        c.dueFault("cell(4, 0, 0)", x, x.cell(4, 0, 0), lost, 0);
        c.dueFault("cell(-1, 0, 0)", x, x.cell(-1, 0, 0), lost, 0);
        c.dueFault("cell(0, 99, 3)", x, x.cell(0, 99, 3), lost, 0);
        c.dueFault("cell(0, 0, -1)", x, x.cell(0, 0, -1), lost, 0);
        c.dueFault("cell(0, 99, 1)", x, x.cell(0, 99, 1), lost, 2);
        c.dueFault("cell(3, 99, 1)", x, x.cell(3, 99, 1), lost, 1);
        c.dueFault("cell(0, 15, 0)", x, x.cell(0, 15, 0), lost, 3);
        c.dueFault("cell(0, -1, 0)", x, x.cell(0, -1, 0), lost, 3);
        c.dueFault("refused behind a fault", x, x.cell(4, 0, 0), lost, 0);
        c.dueFault("cell(0, 14, 0)", x, x.cell(0, 14, 0), 0, 0);
        // a row that is lost has no lane
        x.lose(0);
        c.dueFault("cell(0, 0, 2), lost", x, x.cell(0, 0, 2), lost, 1);
    }

    private static void row(String what, ThunderAsks x, int k, int lane, int... due) {
        for (int i = 0; i < due.length; i++) {
            c.due(what + ", cell " + i, x.cell(k, i, lane), due[i]);
        }
    }

    private static void copy() {
        ThunderAsks x = new ThunderAsks();
        Checks.write(x, 0, 1, 1, 2, 3, 4, 5);
        Checks.write(x, 1, 1, 9, 9, 9);
        c.dueFault("copy(0, 2, 1, 1, 2)", x, x.copy(0, 2, 1, 1, 2), 2, 0);
        row("to another", x, 1, 1, 9, 3, 4);
        c.due("copy(0, 0, 0, 1, 4)", x.copy(0, 0, 0, 1, 4), 4);
        row("onward in the same", x, 0, 1, 1, 1, 2, 3, 4);
        c.due("copy(0, 1, 0, 0, 4)", x.copy(0, 1, 0, 0, 4), 4);
        row("back in the same", x, 0, 1, 1, 2, 3, 4, 4);
        c.due("copy(0, 5, 1, 3, 0)", x.copy(0, 5, 1, 3, 0), 0);
        row("none", x, 1, 1, 9, 3, 4);
    }

    private static void copyRefusals() {
        ThunderAsks x = new ThunderAsks();
        Checks.write(x, 0, 1, 1, 2, 3, 4, 5);
        Checks.write(x, 1, 1, 9, 9, 9);
        Checks.write(x, 2, 2, 9, 9, 9);
        c.dueFault("copy(4, ..)", x, x.copy(4, 0, 3, 0, 0), -1, 0);
        c.dueFault("copy(3, 0, 4, ..)", x, x.copy(3, 0, 4, 0, 0), -1, 0);
        c.dueFault("copy(-1, ..)", x, x.copy(-1, 0, 0, 0, 0), -1, 0);
        c.dueFault("copy(0, 0, -1, ..)", x, x.copy(0, 0, -1, 0, 0), -1, 0);
        c.dueFault("from nothing", x, x.copy(3, -1, 0, 0, 0), Checks.NULL, 1);
        c.dueFault("to nothing", x, x.copy(0, -1, 3, 0, 0), Checks.NULL, 1);
        c.dueFault("unlike lanes", x, x.copy(0, -1, 2, 0, -1), Checks.CAST, 2);
        int max = Integer.MAX_VALUE;
        int[][] beyond = {{-1, 0, 0}, {6, 0, 0}, {0, -1, 0}, {0, 4, 0}, {0, 0, -1}, {0, 0, 4}, {3, 0, 3},
            {0, 2, 2}, {max, 0, 1}, {0, max, 1}, {0, 0, max}, {1, 1, max}, {max, max, max}};
        for (int[] row : beyond) {
            c.dueFault("copy(0, " + row[0] + ", 1, " + row[1] + ", " + row[2] + ")", x,
                x.copy(0, row[0], 1, row[1], row[2]), Checks.INDEX, 3);
        }
        row("as it was", x, 1, 1, 9, 9, 9);
    }

    private static int traceBy(int... bodies) {
        int trace = 0;
        for (int body : bodies) {
            trace = 31 * trace + body;
        }
        return trace;
    }

    private static void tellHailTrace() {
        ThunderAsks x = Checks.settled("d215,m343,b221,s409");
        c.due("tell(0)", x.tell(0), 3);
        c.due("trace of a man", x.trace(), traceBy(1));
        c.due("tell(1)", x.tell(1), 102);
        c.due("trace of a bold one", x.trace(), traceBy(1, 2, 1));
        c.due("tell(2)", x.tell(2), 108);
        c.due("trace of a spiteful one", x.trace(), traceBy(1, 2, 1, 3, 2, 1, 1));
        c.due("hail(0)", x.hail(0), 0);
        c.due("hail(1)", x.hail(1), 1);
        c.due("hail(2)", x.hail(2), 60);
        c.due("trace of hails", x.trace(), traceBy(1, 2, 1, 3, 2, 1, 1, 4, 4, 5));
        c.due("tell(3)", x.tell(3), -1);
        c.due("tell(-1)", x.tell(-1), -1);
        c.due("hail(3)", x.hail(3), -1);
        c.due("hail(-1)", x.hail(-1), -1);
        x.stand(2, 0);
        c.due("tell(2), elsewhere", x.tell(2), 100);
        c.due("trace at last", x.trace(), traceBy(1, 2, 1, 3, 2, 1, 1, 4, 4, 5, 3, 2, 1, 1));
    }

    private static void as() {
        ThunderAsks x = Checks.settled("d215,m343,b221,s409");
        for (int m = 0; m < 3; m++) {
            for (int kind = 0; kind < 3; kind++) {
                boolean is = kind <= m;
                c.dueFault("as(" + m + ", " + kind + ")", x, x.as(m, kind), is ? 1 : Checks.CAST, is ? 0 : 2);
            }
            c.dueFault("as(" + m + ", 3)", x, x.as(m, 3), -2, 0);
            c.dueFault("as(" + m + ", -1)", x, x.as(m, -1), -2, 0);
        }
        c.dueFault("as(3, 9)", x, x.as(3, 9), -1, 0);
        c.dueFault("as(-1, 0)", x, x.as(-1, 0), -1, 0);
    }

    /** Calls that name no faults leave what fault() tells; all others make it anew. */
    private static void fault() {
        ThunderAsks x = Checks.settled("d215,m343,b221,s409");
        x.sheet(0, 0, -1);
        x.ofMan(0, 0);
        x.truth(64);
        x.stand(9, 9);
        x.learn(0, 1);
        x.answer(0, 0);
        x.strikes(0, 0);
        x.dangers(0);
        x.worst(0, 0);
        x.worth(0);
        x.reading(0, 0, true);
        x.back(1);
        x.truths(0);
        x.stood(0);
        x.kinds(0);
        x.knew(0, 0);
        x.odds(0, 0, 0);
        x.lose(0);
        x.tell(0);
        x.hail(0);
        x.trace();
        x.many(0);
        x.fault();
        c.due("fault() stays", x.fault(), 4);
        Checks.write(x, 1, 0, 0, 0);
        for (int call = 0; call < 10; call++) {
            c.dueFault("a length below 0", x, x.sheet(0, 0, -1), Checks.SIZE, 4);
            c.dueFault("call " + call, x, namingFaults(x, call), FAULTLESS[call], 0);
        }
    }

    private static final long[] FAULTLESS = {-100, 1, 0, 0, 0, 1, 1, 0, 1, 1};

    private static long namingFaults(ThunderAsks x, int call) {
        switch (call) {
            case 0:
                return x.county(1, 0, 0, 0);
            case 1:
                return x.storm(1, 0, 0, 1, 0);
            case 2:
                return x.place(-1, 1, 0, 0, 1);
            case 3:
                return x.teach(0, 1, 0, 0, 0);
            case 4:
                return x.fair(1, 0, 0, 1, 0);
            case 5:
                return x.sheet(2, 0, 1);
            case 6:
                return x.put(1, 0, 0);
            case 7:
                return x.cell(1, 0, 0);
            case 8:
                return x.copy(1, 0, 1, 0, 1);
            default:
                return x.as(0, 0);
        }
    }

    private static void many() {
        ThunderAsks x = Checks.settled("d215,m343,b221,s409");
        x.reading(0, 0, true);
        x.reading(0, 0, true);
        int[] due = {3, 5, 21, 2};
        for (int what = 0; what < 4; what++) {
            c.due("many(" + what + ")", x.many(what), due[what]);
        }
        c.due("many(4)", x.many(4), -2);
        c.due("many(-1)", x.many(-1), -2);
    }
}
