/**
 * Promises 2 to 33: for each refusal and each fault of a call, the calls that come to it just below and
 * just above what is allowed, which comes first where two would apply, and that nothing is changed.
 */
public final class RefusalsTest {
    private static final int UNKNOWN = -1, OUTSIDE = -2, STATE = -3, FULL = -4;
    private static final int NULL = 1, CAST = 2, INDEX = 3, SIZE = 4;
    private static final int MIN = Integer.MIN_VALUE, MAX = Integer.MAX_VALUE;
    private static final Twins.Setting BARE = Twins.Setting.BARE, FEW = Twins.Setting.FEW, MANY = Twins.Setting.MANY;

    private static final Checks c = new Checks();

    public static void main(String[] args) {
        county();
        ofMan();
        truth();
        stand();
        learn();
        answer();
        strikes();
        dangers();
        storm();
        stormPairs();
        place();
        teach();
        worst();
        fair();
        worth();
        reading();
        back();
        truths();
        stoodAndKinds();
        knew();
        odds();
        sheet();
        lose();
        put();
        cell();
        copy();
        tellAndHail();
        as();
        many();
        c.end("RefusalsTest");
    }

    /** A call that names no faults is refused: fault() is as it was. */
    private static void refused(String told, Twins.Call call, long want, Twins.Setting... settings) {
        for (Twins.Setting setting : settings) {
            Twins.unchanged(c, told, setting, call, want, Twins.FAULT_BEFORE);
        }
    }

    /** A call that names faults is refused, or comes to none and changes nothing: fault() becomes 0. */
    private static void faultless(String told, Twins.Call call, long want, Twins.Setting... settings) {
        for (Twins.Setting setting : settings) {
            Twins.unchanged(c, told, setting, call, want, 0);
        }
    }

    /** A call that answers an int comes to a fault: it answers -10 less it. */
    private static void faulty(String told, Twins.Call call, int fault, Twins.Setting... settings) {
        for (Twins.Setting setting : settings) {
            Twins.unchanged(c, told, setting, call, -10 - fault, fault);
        }
    }

    /** A call that answers a long comes to a fault, or (0) is refused: it answers LOST. */
    private static void lost(String told, Twins.Call call, int fault, Twins.Setting... settings) {
        for (Twins.Setting setting : settings) {
            Twins.unchanged(c, told, setting, call, Checks.LOST, fault);
        }
    }

    private static void county() {
        for (int k : new int[] {-1, 4, MIN, MAX}) {
            faultless("2 county UNKNOWN " + k, x -> x.county(k, 0, 0, 0), UNKNOWN, BARE, MANY);
            faultless("2 county UNKNOWN ahead of OUTSIDE", x -> x.county(k, 3, 0, 0), UNKNOWN, BARE, MANY);
            faultless("2 county UNKNOWN ahead of SIZE", x -> x.county(k, 0, 0, -1), UNKNOWN, BARE, MANY);
        }
        for (int lane : new int[] {-1, 3, MIN, MAX}) {
            faultless("2 county OUTSIDE lane " + lane, x -> x.county(0, lane, 0, 0), OUTSIDE, BARE, MANY);
            faultless("2 county OUTSIDE ahead of NULL", x -> x.county(3, lane, 0, 0), OUTSIDE, BARE, MANY);
            faultless("2 county OUTSIDE ahead of SIZE", x -> x.county(0, lane, 0, -1), OUTSIDE, BARE, MANY);
            faultless("2 county OUTSIDE ahead of INDEX", x -> x.county(0, lane, -1, 0), OUTSIDE, BARE, MANY);
        }
        faulty("2 county CAST, a lane above", x -> x.county(0, 1, 0, 1), CAST, BARE, MANY);
        faulty("2 county CAST, a lane below", x -> x.county(2, 1, 0, 0), CAST, BARE, MANY);
        faulty("2 county CAST ahead of SIZE", x -> x.county(0, 2, 0, -1), CAST, BARE, MANY);
        faulty("2 county CAST ahead of INDEX", x -> x.county(1, 0, 53, 1), CAST, BARE, MANY);
        for (int lane = 0; lane < 3; lane++) {
            int taken = lane;
            faulty("2 county NULL, nothing is no CAST", x -> x.county(3, taken, 0, 0), NULL, BARE, MANY);
        }
        faulty("2 county NULL ahead of SIZE", x -> x.county(3, 0, 0, -1), NULL, BARE, MANY);
        faulty("2 county NULL ahead of INDEX", x -> x.county(3, 0, -1, 1), NULL, BARE, MANY);
        for (int n : new int[] {-1, MIN}) {
            faulty("2 county SIZE " + n, x -> x.county(0, 0, 0, n), SIZE, BARE, MANY);
            faulty("2 county SIZE ahead of INDEX", x -> x.county(0, 0, -1, n), SIZE, BARE, MANY);
            faulty("2 county SIZE ahead of INDEX beyond", x -> x.county(0, 0, 6, n), SIZE, BARE, MANY);
        }
        int[][] beyond = {{0, 6}, {1, 5}, {5, 1}, {6, 0}, {-1, 0}, {-1, 1}, {-1, 6}, {MIN, 0}, {MAX, 0}, {MAX, 1},
            {1, MAX}, {MAX, MAX}, {MIN, MAX}};
        for (int[] row : beyond) {
            faulty("2 county INDEX " + row[0] + " " + row[1], x -> x.county(0, 0, row[0], row[1]), INDEX, BARE, MANY);
        }
        faulty("2 county INDEX of no cells", x -> x.county(2, 2, 0, 1), INDEX, BARE, MANY);
        faulty("2 county INDEX of no cells, none taken", x -> x.county(2, 2, 1, 0), INDEX, BARE, MANY);
        faultless("2 county, none taken at the end", x -> x.county(0, 0, 5, 0), -100, BARE, MANY);
        faultless("2 county, none taken of none", x -> x.county(2, 2, 0, 0), -100, BARE, MANY);
        faultless("2 county, first fault at once", x -> x.county(0, 0, 1, 4), -100, BARE, FEW, MANY);
        faultless("2 county, ends too soon", x -> x.county(0, 0, 0, 5), -105, BARE, FEW, MANY);
    }

    private static void ofMan() {
        for (int m : new int[] {-1, 4, MIN, MAX}) {
            refused("3 ofMan UNKNOWN " + m, x -> x.ofMan(m, 0), UNKNOWN, BARE, MANY);
            refused("3 ofMan UNKNOWN ahead of OUTSIDE", x -> x.ofMan(m, 3), UNKNOWN, BARE, MANY);
        }
        refused("3 ofMan UNKNOWN 1 of one", x -> x.ofMan(1, 0), UNKNOWN, FEW);
        refused("3 ofMan UNKNOWN 0 of none", x -> x.ofMan(0, 3), UNKNOWN, BARE);
        for (int what : new int[] {-1, 3, MIN, MAX}) {
            refused("3 ofMan OUTSIDE " + what, x -> x.ofMan(0, what), OUTSIDE, FEW, MANY);
        }
    }

    private static void truth() {
        for (int set : new int[] {-1, 64, MIN, MAX}) {
            refused("4 truth OUTSIDE " + set, x -> x.truth(set), OUTSIDE, FEW, MANY);
            refused("4 truth OUTSIDE ahead of STATE " + set, x -> x.truth(set), OUTSIDE, BARE);
        }
        refused("4 truth STATE 0", x -> x.truth(0), STATE, BARE);
        refused("4 truth STATE 63", x -> x.truth(63), STATE, BARE);
    }

    private static void stand() {
        for (int m : new int[] {-1, 4, MIN, MAX}) {
            refused("5 stand UNKNOWN man " + m, x -> x.stand(m, 1), UNKNOWN, BARE, FEW, MANY);
        }
        for (int p : new int[] {-1, 6, MIN, MAX}) {
            refused("5 stand UNKNOWN parish " + p, x -> x.stand(0, p), UNKNOWN, BARE, FEW, MANY);
        }
        refused("5 stand UNKNOWN man 1 of one", x -> x.stand(1, 1), UNKNOWN, FEW);
        refused("5 stand UNKNOWN parish 2 of two", x -> x.stand(0, 2), UNKNOWN, FEW);
        refused("5 stand UNKNOWN, none there", x -> x.stand(0, 0), UNKNOWN, BARE);
    }

    private static void learn() {
        for (int m : new int[] {-1, 4, MIN, MAX}) {
            refused("6 learn UNKNOWN " + m, x -> x.learn(m, 1), UNKNOWN, BARE, FEW, MANY);
            refused("6 learn UNKNOWN ahead of OUTSIDE", x -> x.learn(m, 64), UNKNOWN, BARE, FEW, MANY);
        }
        refused("6 learn UNKNOWN 1 of one", x -> x.learn(1, 1), UNKNOWN, FEW);
        refused("6 learn UNKNOWN 0 of none", x -> x.learn(0, 1), UNKNOWN, BARE);
        for (int set : new int[] {-1, 64, MIN, MAX}) {
            refused("6 learn OUTSIDE " + set, x -> x.learn(0, set), OUTSIDE, FEW, MANY);
        }
    }

    private static void answer() {
        for (int m : new int[] {-1, 4, MIN, MAX}) {
            refused("7 answer UNKNOWN " + m, x -> x.answer(m, 0), UNKNOWN, BARE, FEW, MANY);
            refused("7 answer UNKNOWN ahead of OUTSIDE", x -> x.answer(m, 6), UNKNOWN, BARE, FEW, MANY);
        }
        refused("7 answer UNKNOWN 1 of one", x -> x.answer(1, 0), UNKNOWN, FEW);
        refused("7 answer UNKNOWN 0 of none", x -> x.answer(0, 0), UNKNOWN, BARE);
        for (int q : new int[] {-1, 6, MIN, MAX}) {
            refused("7 answer OUTSIDE " + q, x -> x.answer(0, q), OUTSIDE, FEW, MANY);
        }
        refused("7 answer changes nothing", x -> x.answer(1, 5), 1, MANY);
    }

    private static void strikes() {
        for (int p : new int[] {-1, 6, MIN, MAX}) {
            refused("8 strikes UNKNOWN " + p, x -> x.strikes(p, 0), UNKNOWN, BARE, FEW, MANY);
            refused("8 strikes UNKNOWN ahead of OUTSIDE", x -> x.strikes(p, 6), UNKNOWN, BARE, FEW, MANY);
        }
        refused("8 strikes UNKNOWN 2 of two", x -> x.strikes(2, 0), UNKNOWN, FEW);
        refused("8 strikes UNKNOWN 0 of none", x -> x.strikes(0, 0), UNKNOWN, BARE);
        for (int q : new int[] {-1, 6, MIN, MAX}) {
            refused("8 strikes OUTSIDE " + q, x -> x.strikes(0, q), OUTSIDE, FEW, MANY);
        }
        refused("8 strikes changes nothing", x -> x.strikes(5, 5), 1, MANY);
    }

    private static void dangers() {
        for (int p : new int[] {-1, 6, MIN, MAX}) {
            refused("9 dangers UNKNOWN " + p, x -> x.dangers(p), UNKNOWN, BARE, FEW, MANY);
        }
        refused("9 dangers UNKNOWN 2 of two", x -> x.dangers(2), UNKNOWN, FEW);
        refused("9 dangers UNKNOWN 0 of none", x -> x.dangers(0), UNKNOWN, BARE);
        refused("9 dangers changes nothing", x -> x.dangers(5), 63, MANY);
    }

    private static void storm() {
        for (int k : new int[] {-1, 4, MIN, MAX}) {
            faultless("10 storm UNKNOWN " + k, x -> x.storm(k, 1, 0, 1, 0), UNKNOWN, BARE, MANY);
            faultless("10 storm UNKNOWN ahead of lane", x -> x.storm(k, 3, 0, 1, 0), UNKNOWN, BARE, MANY);
            faultless("10 storm UNKNOWN ahead of n", x -> x.storm(k, 1, 0, 21, 0), UNKNOWN, BARE, MANY);
            faultless("10 storm UNKNOWN ahead of what", x -> x.storm(k, 1, 0, 1, 3), UNKNOWN, BARE, MANY);
        }
        for (int lane : new int[] {-1, 3, MIN, MAX}) {
            faultless("10 storm OUTSIDE lane " + lane, x -> x.storm(1, lane, 0, 1, 0), OUTSIDE, BARE, MANY);
            faultless("10 storm lane ahead of NULL", x -> x.storm(3, lane, 0, 1, 0), OUTSIDE, BARE, MANY);
            faultless("10 storm lane ahead of INDEX", x -> x.storm(1, lane, -1, 1, 0), OUTSIDE, BARE, MANY);
        }
        for (int n : new int[] {-1, 21, MIN, MAX, 1 << 30, 1 << 31}) {
            faultless("10 storm OUTSIDE n " + n, x -> x.storm(1, 1, 0, n, 0), OUTSIDE, BARE, MANY);
            faultless("10 storm n ahead of CAST", x -> x.storm(1, 0, 0, n, 0), OUTSIDE, BARE, MANY);
            faultless("10 storm n ahead of NULL", x -> x.storm(3, 0, 0, n, 0), OUTSIDE, BARE, MANY);
        }
        for (int what : new int[] {-1, 3, MIN, MAX}) {
            faultless("10 storm OUTSIDE what " + what, x -> x.storm(1, 1, 0, 1, what), OUTSIDE, BARE, MANY);
            faultless("10 storm what ahead of CAST", x -> x.storm(1, 0, 0, 1, what), OUTSIDE, BARE, MANY);
            faultless("10 storm what ahead of NULL", x -> x.storm(3, 0, 0, 1, what), OUTSIDE, BARE, MANY);
            faultless("10 storm what ahead of INDEX", x -> x.storm(1, 1, -1, 1, what), OUTSIDE, BARE, MANY);
        }
        stormFaults("10 storm", (x, k, lane, i, n) -> x.storm(k, lane, i, n, 0));
        faultless("10 storm of none, how often", x -> x.storm(1, 1, 52, 0, 0), 0, FEW, MANY);
        faultless("10 storm of none, the first", x -> x.storm(2, 2, 0, 0, 1), -9, FEW, MANY);
        faultless("10 storm of none, parishes", x -> x.storm(2, 2, 0, 0, 2), 0, FEW, MANY);
        faultless("10 storm changes nothing", x -> x.storm(1, 1, 0, 20, 0), 0, FEW, MANY);
    }

    /** A call that is told a storm, its other arguments being right. */
    private interface Stormy {
        long on(ThunderAsks x, int k, int lane, int i, int n);
    }

    /** The faults of a storm and the STATE behind them; such calls answer ints. */
    private static void stormFaults(String told, Stormy call) {
        faulty(told + " CAST, a lane above", x -> call.on(x, 0, 1, 0, 1), CAST, FEW, MANY);
        faulty(told + " CAST, a lane below", x -> call.on(x, 1, 0, 0, 1), CAST, FEW, MANY);
        faulty(told + " CAST of no cells", x -> call.on(x, 2, 1, 0, 0), CAST, FEW, MANY);
        faulty(told + " CAST ahead of INDEX", x -> call.on(x, 1, 2, -1, 1), CAST, FEW, MANY);
        for (int lane = 0; lane < 3; lane++) {
            int taken = lane;
            faulty(told + " NULL, nothing is no CAST", x -> call.on(x, 3, taken, 0, 0), NULL, FEW, MANY);
        }
        faulty(told + " NULL ahead of INDEX", x -> call.on(x, 3, 0, -1, 1), NULL, FEW, MANY);
        int[][] beyond = {{13, 20}, {51, 1}, {50, 2}, {52, 1}, {53, 0}, {-1, 0}, {-1, 1}, {-2, 1}, {MIN, 0}, {MAX, 0},
            {MAX, 1}, {MAX - 39, 20}, {MAX, 20}};
        for (int[] row : beyond) {
            faulty(told + " INDEX " + row[0] + " " + row[1], x -> call.on(x, 1, 1, row[0], row[1]), INDEX, FEW, MANY);
        }
        faulty(told + " INDEX of no cells", x -> call.on(x, 2, 2, 0, 1), INDEX, FEW, MANY);
        faulty(told + " INDEX, one cell of the last pair short", x -> call.on(x, 0, 0, 0, 3), INDEX, FEW, MANY);
        faulty(told + " INDEX ahead of PARISH", x -> call.on(x, 1, 1, 40, 7), INDEX, FEW, MANY);
    }

    /** What a storm comes to where there is no county, if no man is needed for it. */
    private static void stormState(String told, Stormy call) {
        faulty(told + " CAST ahead of STATE", x -> call.on(x, 1, 0, 0, 1), CAST, BARE);
        faulty(told + " NULL ahead of STATE", x -> call.on(x, 3, 0, 0, 1), NULL, BARE);
        faulty(told + " INDEX ahead of STATE", x -> call.on(x, 1, 1, 51, 1), INDEX, BARE);
        faulty(told + " INDEX of none ahead of STATE", x -> call.on(x, 1, 1, 53, 0), INDEX, BARE);
        faultless(told + " STATE", x -> call.on(x, 1, 1, 0, 20), STATE, BARE);
        faultless(told + " STATE, no pairs", x -> call.on(x, 2, 2, 0, 0), STATE, BARE);
        faultless(told + " STATE ahead of PARISH", x -> call.on(x, 1, 1, 40, 1), STATE, BARE);
        faultless(told + " STATE ahead of QUESTION", x -> call.on(x, 1, 1, 42, 1), STATE, BARE);
    }

    /** Pair by pair: the cells from 40 on are (-1, 0), (0, -1), (6, 6), (0, 6), (2, 0), (0, 0). */
    private static void pairByPair(String told, Stormy call) {
        faultless(told + " UNKNOWN parish -1", x -> call.on(x, 1, 1, 40, 1), UNKNOWN, FEW, MANY);
        faultless(told + " OUTSIDE question -1", x -> call.on(x, 1, 1, 42, 1), OUTSIDE, FEW, MANY);
        faultless(told + " UNKNOWN ahead of OUTSIDE", x -> call.on(x, 1, 1, 44, 1), UNKNOWN, FEW, MANY);
        faultless(told + " OUTSIDE question 6", x -> call.on(x, 1, 1, 46, 1), OUTSIDE, FEW, MANY);
        faultless(told + " UNKNOWN parish 2 of two", x -> call.on(x, 1, 1, 48, 1), UNKNOWN, FEW);
        faultless(told + " a pair ahead of the next, parish", x -> call.on(x, 1, 1, 40, 2), UNKNOWN, FEW, MANY);
        faultless(told + " a pair ahead of the next, question", x -> call.on(x, 1, 1, 42, 2), OUTSIDE, FEW, MANY);
        faultless(told + " the twentieth pair", x -> call.on(x, 1, 1, 2, 20), UNKNOWN, FEW, MANY);
        faultless(told + " all pairs to the end", x -> call.on(x, 1, 1, 12, 20), UNKNOWN, FEW, MANY);
        faultless(told + " parish 6 of six", x -> call.on(x, 1, 1, 44, 4), UNKNOWN, MANY);
    }

    private static void stormPairs() {
        Stormy storm = (x, k, lane, i, n) -> x.storm(k, lane, i, n, 2);
        stormState("10 storm", storm);
        pairByPair("10 storm", storm);
        faultless("10 storm at the end, parish 2", x -> x.storm(1, 1, 48, 2, 2), 4, MANY);
    }

    private static void place() {
        for (int k : new int[] {-2, MIN}) {
            faultless("11 place UNKNOWN " + k, x -> x.place(k, 1, 1, 0, 1), UNKNOWN, BARE, FEW, MANY);
            faultless("11 place k ahead of lane", x -> x.place(k, 1, 3, 0, 1), UNKNOWN, BARE, FEW, MANY);
            faultless("11 place k ahead of n", x -> x.place(k, 1, 1, 0, 21), UNKNOWN, BARE, FEW, MANY);
            faultless("11 place k ahead of CAST", x -> x.place(k, 1, 2, 0, 1), UNKNOWN, BARE, FEW, MANY);
            faultless("11 place k ahead of NULL", x -> x.place(k, 3, 2, 0, 1), UNKNOWN, BARE, FEW, MANY);
            faultless("11 place k ahead of INDEX", x -> x.place(k, 1, 1, -1, 1), UNKNOWN, BARE, FEW, MANY);
        }
        for (int man : new int[] {-1, 0, 4, MAX}) {
            Stormy place = (x, k, lane, i, n) -> x.place(man, k, lane, i, n);
            stormNumbers("11 place", place, BARE, MANY);
            stormFaults("11 place", place);
            stormState("11 place", place);
            pairByPair("11 place", place);
        }
        faultless("11 place NONE, man 1 of one", x -> x.place(1, 1, 1, 0, 1), -9, FEW);
        faultless("11 place NONE, man 4 of four", x -> x.place(4, 1, 1, 0, 1), -9, MANY);
        faultless("11 place NONE, no pairs", x -> x.place(MAX, 2, 2, 0, 0), -9, FEW, MANY);
        faultless("11 place changes nothing", x -> x.place(-1, 1, 1, 0, 20), 0, FEW, MANY);
    }

    /** What is refused of a storm's sheet, lane and n. */
    private static void stormNumbers(String told, Stormy call, Twins.Setting... settings) {
        for (int k : new int[] {-1, 4, MIN, MAX}) {
            faultless(told + " UNKNOWN sheet " + k, x -> call.on(x, k, 1, 0, 1), UNKNOWN, settings);
            faultless(told + " UNKNOWN ahead of OUTSIDE", x -> call.on(x, k, 3, 0, 21), UNKNOWN, settings);
        }
        for (int lane : new int[] {-1, 3, MIN, MAX}) {
            faultless(told + " OUTSIDE lane " + lane, x -> call.on(x, 1, lane, 0, 1), OUTSIDE, settings);
            faultless(told + " lane ahead of NULL", x -> call.on(x, 3, lane, 0, 1), OUTSIDE, settings);
        }
        for (int n : new int[] {-1, 21, MIN, MAX, 1 << 30}) {
            faultless(told + " OUTSIDE n " + n, x -> call.on(x, 1, 1, 0, n), OUTSIDE, settings);
            faultless(told + " n ahead of CAST", x -> call.on(x, 1, 0, 0, n), OUTSIDE, settings);
            faultless(told + " n ahead of NULL", x -> call.on(x, 3, 0, 0, n), OUTSIDE, settings);
        }
    }

    private static void teach() {
        for (int m : new int[] {-1, 4, MIN, MAX}) {
            faultless("12 teach UNKNOWN " + m, x -> x.teach(m, 1, 1, 0, 1), UNKNOWN, BARE, FEW, MANY);
            faultless("12 teach man ahead of lane", x -> x.teach(m, 1, 3, 0, 1), UNKNOWN, BARE, FEW, MANY);
            faultless("12 teach man ahead of n", x -> x.teach(m, 1, 1, 0, 21), UNKNOWN, BARE, FEW, MANY);
            faultless("12 teach man ahead of CAST", x -> x.teach(m, 1, 2, 0, 1), UNKNOWN, BARE, FEW, MANY);
            faultless("12 teach man ahead of NULL", x -> x.teach(m, 3, 2, 0, 1), UNKNOWN, BARE, FEW, MANY);
            faultless("12 teach man ahead of INDEX", x -> x.teach(m, 1, 1, -1, 1), UNKNOWN, BARE, FEW, MANY);
        }
        faultless("12 teach UNKNOWN 1 of one", x -> x.teach(1, 1, 1, 0, 1), UNKNOWN, FEW);
        faultless("12 teach UNKNOWN ahead of STATE", x -> x.teach(0, 1, 1, 0, 1), UNKNOWN, BARE);
        Stormy teach = (x, k, lane, i, n) -> x.teach(0, k, lane, i, n);
        stormNumbers("12 teach", teach, FEW, MANY);
        stormFaults("12 teach", teach);
        pairByPair("12 teach", teach);
        faultless("12 teach NONE", x -> x.teach(0, 1, 1, 48, 1), -9, MANY);
        faultless("12 teach, no pairs", x -> x.teach(0, 2, 2, 0, 0), 0, FEW, MANY);
        faultless("12 teach changes nothing", x -> x.teach(0, 1, 1, 0, 20), 0, FEW, MANY);
    }

    private static void worst() {
        for (int p : new int[] {-1, 6, MIN, MAX}) {
            refused("13 worst UNKNOWN " + p, x -> x.worst(p, 1), UNKNOWN, BARE, FEW, MANY);
            refused("13 worst UNKNOWN ahead of OUTSIDE", x -> x.worst(p, 13), UNKNOWN, BARE, FEW, MANY);
        }
        refused("13 worst UNKNOWN 2 of two", x -> x.worst(2, 1), UNKNOWN, FEW);
        refused("13 worst UNKNOWN 0 of none", x -> x.worst(0, 1), UNKNOWN, BARE);
        for (int n : new int[] {-1, 13, MIN, MAX}) {
            refused("13 worst OUTSIDE " + n, x -> x.worst(0, n), OUTSIDE, FEW, MANY);
        }
        refused("13 worst changes nothing", x -> x.worst(0, 12), 6, MANY);
    }

    private static void fair() {
        for (int k : new int[] {-1, 4, MIN, MAX}) {
            lost("14 fair UNKNOWN " + k, x -> x.fair(k, 1, 0, 1, 0), 0, BARE, MANY);
        }
        for (int lane : new int[] {-1, 3, MIN, MAX}) {
            lost("14 fair OUTSIDE lane " + lane, x -> x.fair(1, lane, 0, 1, 0), 0, BARE, MANY);
            lost("14 fair lane ahead of NULL", x -> x.fair(3, lane, 0, 1, 0), 0, BARE, MANY);
        }
        for (int n : new int[] {-1, 21, MIN, MAX}) {
            lost("14 fair OUTSIDE n " + n, x -> x.fair(1, 1, 0, n, 0), 0, BARE, MANY);
            lost("14 fair n ahead of CAST", x -> x.fair(1, 0, 0, n, 0), 0, BARE, MANY);
            lost("14 fair n ahead of NULL", x -> x.fair(3, 0, 0, n, 0), 0, BARE, MANY);
        }
        for (int which : new int[] {-1, 2, MIN, MAX}) {
            lost("14 fair OUTSIDE which " + which, x -> x.fair(1, 1, 0, 1, which), 0, BARE, MANY);
            lost("14 fair which ahead of CAST", x -> x.fair(1, 0, 0, 1, which), 0, BARE, MANY);
            lost("14 fair which ahead of NULL", x -> x.fair(3, 0, 0, 1, which), 0, BARE, MANY);
            lost("14 fair which ahead of INDEX", x -> x.fair(1, 1, -1, 1, which), 0, BARE, MANY);
        }
        for (int which = 0; which < 2; which++) {
            fairFaults(which);
        }
        faultless("14 fair of none", x -> x.fair(1, 1, 52, 0, 0), 1, FEW, MANY);
        faultless("14 fair changes nothing", x -> x.fair(1, 1, 0, 20, 0), 1048576, FEW, MANY);
    }

    private static void fairFaults(int which) {
        lost("14 fair CAST, a lane above", x -> x.fair(0, 1, 0, 1, which), CAST, BARE, MANY);
        lost("14 fair CAST, a lane below", x -> x.fair(1, 0, 0, 1, which), CAST, BARE, MANY);
        lost("14 fair CAST ahead of INDEX", x -> x.fair(1, 2, -1, 1, which), CAST, BARE, MANY);
        for (int lane = 0; lane < 3; lane++) {
            int taken = lane;
            lost("14 fair NULL, nothing is no CAST", x -> x.fair(3, taken, 0, 0, which), NULL, BARE, MANY);
        }
        lost("14 fair NULL ahead of INDEX", x -> x.fair(3, 0, -1, 1, which), NULL, BARE, MANY);
        int[][] beyond = {{33, 20}, {52, 1}, {51, 2}, {53, 0}, {-1, 0}, {-1, 1}, {MIN, 0}, {MAX, 0}, {MAX, 1},
            {MAX - 19, 20}};
        for (int[] row : beyond) {
            lost("14 fair INDEX " + row[0] + " " + row[1], x -> x.fair(1, 1, row[0], row[1], which), INDEX, BARE, MANY);
        }
        lost("14 fair INDEX of no cells", x -> x.fair(2, 2, 0, 1, which), INDEX, BARE, MANY);
        lost("14 fair INDEX ahead of PARISH", x -> x.fair(1, 1, 40, 13, which), INDEX, FEW, MANY);
        lost("14 fair STATE", x -> x.fair(1, 1, 0, 1, which), 0, BARE);
        lost("14 fair STATE, none taken", x -> x.fair(1, 1, 0, 0, which), 0, BARE);
        lost("14 fair PARISH -1", x -> x.fair(1, 1, 40, 1, which), 0, FEW, MANY);
        lost("14 fair PARISH 6", x -> x.fair(1, 1, 44, 1, which), 0, FEW, MANY);
        lost("14 fair PARISH 2 of two", x -> x.fair(1, 1, 48, 1, which), 0, FEW);
        lost("14 fair PARISH, the twentieth", x -> x.fair(1, 1, 21, 20, which), 0, FEW, MANY);
    }

    private static void worth() {
        for (int m : new int[] {-1, 4, MIN, MAX}) {
            refused("15 worth UNKNOWN " + m, x -> x.worth(m), UNKNOWN, BARE, FEW, MANY);
        }
        refused("15 worth UNKNOWN 1 of one", x -> x.worth(1), UNKNOWN, FEW);
        refused("15 worth UNKNOWN 0 of none", x -> x.worth(0), UNKNOWN, BARE);
        refused("15 worth changes nothing", x -> x.worth(0), 104, FEW, MANY);
    }

    private static void reading() {
        for (int p : new int[] {-1, 6, MIN, MAX}) {
            refused("16 reading UNKNOWN " + p, x -> x.reading(p, 0, true), UNKNOWN, BARE, FEW);
            refused("16 reading UNKNOWN ahead of OUTSIDE", x -> x.reading(p, 6, true), UNKNOWN, BARE, FEW);
            refused("16 reading UNKNOWN ahead of FULL", x -> x.reading(p, 0, false), UNKNOWN, MANY);
        }
        refused("16 reading UNKNOWN 2 of two", x -> x.reading(2, 0, false), UNKNOWN, FEW);
        refused("16 reading UNKNOWN 0 of none", x -> x.reading(0, 0, false), UNKNOWN, BARE);
        for (int q : new int[] {-1, 6, MIN, MAX}) {
            refused("16 reading OUTSIDE " + q, x -> x.reading(0, q, true), OUTSIDE, FEW);
            refused("16 reading OUTSIDE ahead of FULL", x -> x.reading(0, q, false), OUTSIDE, MANY);
        }
        refused("16 reading FULL, struck", x -> x.reading(0, 0, true), FULL, MANY);
        refused("16 reading FULL, held", x -> x.reading(5, 5, false), FULL, MANY);
    }

    private static void back() {
        for (int k : new int[] {-1, 9, MIN, MAX}) {
            refused("17 back OUTSIDE " + k, x -> x.back(k), OUTSIDE, BARE, FEW, MANY);
        }
        refused("17 back OUTSIDE 1 of none", x -> x.back(1), OUTSIDE, BARE, FEW);
        refused("17 back 0 of none", x -> x.back(0), 0, BARE, FEW);
        refused("17 back 0 of eight", x -> x.back(0), 8, MANY);
    }

    private static void truths() {
        for (int what : new int[] {-1, 2, 9, 16, MIN, MAX, MIN + 10}) {
            refused("18 truths OUTSIDE " + what, x -> x.truths(what), OUTSIDE, FEW, MANY);
            refused("18 truths OUTSIDE ahead of STATE", x -> x.truths(what), OUTSIDE, BARE);
        }
        for (int what : new int[] {0, 1, 10, 11, 12, 13, 14, 15}) {
            refused("18 truths STATE " + what, x -> x.truths(what), STATE, BARE);
        }
        refused("18 truths changes nothing", x -> x.truths(0), 64, FEW);
    }

    private static void stoodAndKinds() {
        for (int m : new int[] {-1, 4, MIN, MAX}) {
            refused("19 stood UNKNOWN " + m, x -> x.stood(m), UNKNOWN, BARE, FEW, MANY);
            refused("20 kinds UNKNOWN " + m, x -> x.kinds(m), UNKNOWN, BARE, FEW, MANY);
        }
        refused("19 stood UNKNOWN 1 of one", x -> x.stood(1), UNKNOWN, FEW);
        refused("19 stood UNKNOWN 0 of none", x -> x.stood(0), UNKNOWN, BARE);
        refused("19 stood changes nothing", x -> x.stood(0), 3, FEW);
        refused("20 kinds UNKNOWN 1 of one", x -> x.kinds(1), UNKNOWN, FEW);
        refused("20 kinds UNKNOWN 0 of none", x -> x.kinds(0), UNKNOWN, BARE);
        refused("20 kinds changes nothing", x -> x.kinds(0), 7, FEW);
    }

    private static void knew() {
        for (int m : new int[] {-1, 4, MIN, MAX}) {
            refused("21 knew UNKNOWN " + m, x -> x.knew(m, 0), UNKNOWN, BARE, FEW, MANY);
            refused("21 knew UNKNOWN ahead of OUTSIDE", x -> x.knew(m, 2), UNKNOWN, BARE, FEW, MANY);
        }
        refused("21 knew UNKNOWN 1 of one", x -> x.knew(1, 0), UNKNOWN, FEW);
        refused("21 knew UNKNOWN 0 of none", x -> x.knew(0, 2), UNKNOWN, BARE);
        for (int what : new int[] {-1, 2, MIN, MAX}) {
            refused("21 knew OUTSIDE " + what, x -> x.knew(0, what), OUTSIDE, FEW, MANY);
        }
        refused("21 knew changes nothing", x -> x.knew(0, 0), 64, FEW);
    }

    private static void odds() {
        for (int p : new int[] {-1, 6, MIN, MAX}) {
            refused("22 odds UNKNOWN " + p, x -> x.odds(p, 0, 0), Checks.LOST, BARE, FEW, MANY);
        }
        refused("22 odds UNKNOWN 2 of two", x -> x.odds(2, 0, 0), Checks.LOST, FEW);
        refused("22 odds UNKNOWN 0 of none", x -> x.odds(0, 0, 1), Checks.LOST, BARE);
        for (int q : new int[] {-1, 6, MIN, MAX}) {
            refused("22 odds OUTSIDE q " + q, x -> x.odds(0, q, 0), Checks.LOST, FEW, MANY);
        }
        for (int which : new int[] {-1, 2, MIN, MAX}) {
            refused("22 odds OUTSIDE which " + which, x -> x.odds(0, 0, which), Checks.LOST, FEW, MANY);
        }
        refused("22 odds changes nothing", x -> x.odds(0, 0, 1), 2, FEW, MANY);
    }

    private static void sheet() {
        for (int k : new int[] {-1, 4, MIN, MAX}) {
            faultless("23 sheet UNKNOWN " + k, x -> x.sheet(k, 0, 1), UNKNOWN, BARE, MANY);
            faultless("23 sheet UNKNOWN ahead of lane", x -> x.sheet(k, 3, 1), UNKNOWN, BARE, MANY);
            faultless("23 sheet UNKNOWN ahead of n", x -> x.sheet(k, 0, 61), UNKNOWN, BARE, MANY);
            faultless("23 sheet UNKNOWN ahead of SIZE", x -> x.sheet(k, 0, -1), UNKNOWN, BARE, MANY);
        }
        for (int k = 0; k < 4; k++) {
            int taken = k;
            for (int lane : new int[] {-1, 3, MIN, MAX}) {
                faultless("23 sheet OUTSIDE lane " + lane, x -> x.sheet(taken, lane, 1), OUTSIDE, BARE, MANY);
                faultless("23 sheet lane ahead of SIZE", x -> x.sheet(taken, lane, -1), OUTSIDE, BARE, MANY);
            }
            for (int n : new int[] {61, MAX}) {
                faultless("23 sheet OUTSIDE n " + n, x -> x.sheet(taken, 0, n), OUTSIDE, BARE, MANY);
            }
            for (int n : new int[] {-1, MIN}) {
                faulty("23 sheet SIZE " + n, x -> x.sheet(taken, 2, n), SIZE, BARE, MANY);
            }
        }
    }

    private static void lose() {
        for (int k : new int[] {-1, 4, MIN, MAX}) {
            refused("24 lose UNKNOWN " + k, x -> x.lose(k), UNKNOWN, BARE, MANY);
        }
        refused("24 lose of nothing", x -> x.lose(3), 0, BARE, MANY);
    }

    private static void put() {
        for (int k : new int[] {-1, 4, MIN, MAX}) {
            faultless("25 put UNKNOWN " + k, x -> x.put(k, 0, 7), UNKNOWN, BARE, MANY);
            faultless("25 put UNKNOWN ahead of INDEX", x -> x.put(k, -1, 7), UNKNOWN, BARE, MANY);
        }
        faulty("25 put NULL", x -> x.put(3, 0, 7), NULL, BARE, MANY);
        for (int i : new int[] {-1, MIN, MAX, 60}) {
            faulty("25 put NULL ahead of INDEX " + i, x -> x.put(3, i, 7), NULL, BARE, MANY);
            faulty("25 put INDEX " + i, x -> x.put(0, i, 7), INDEX, BARE, MANY);
        }
        faulty("25 put INDEX 5 of five", x -> x.put(0, Twins.BYTES, 7), INDEX, BARE, MANY);
        faulty("25 put INDEX 52 of 52", x -> x.put(1, Twins.SHORTS, 7), INDEX, BARE, MANY);
        faulty("25 put INDEX 0 of none", x -> x.put(2, 0, 7), INDEX, BARE, MANY);
    }

    private static void cell() {
        for (int k : new int[] {-1, 4, MIN, MAX}) {
            lost("26 cell UNKNOWN " + k, x -> x.cell(k, 0, 0), 0, BARE, MANY);
        }
        for (int lane : new int[] {-1, 3, MIN, MAX}) {
            lost("26 cell OUTSIDE " + lane, x -> x.cell(0, 0, lane), 0, BARE, MANY);
            lost("26 cell OUTSIDE ahead of NULL", x -> x.cell(3, 0, lane), 0, BARE, MANY);
            lost("26 cell OUTSIDE ahead of INDEX", x -> x.cell(0, -1, lane), 0, BARE, MANY);
        }
        int[] lanes = {0, 1, 2};
        for (int k = 0; k < 3; k++) {
            int taken = k;
            for (int lane : lanes) {
                if (lane != k) {
                    lost("26 cell CAST " + k + " " + lane, x -> x.cell(taken, 0, lane), CAST, BARE, MANY);
                    lost("26 cell CAST ahead of INDEX", x -> x.cell(taken, -1, lane), CAST, BARE, MANY);
                }
            }
            for (int i : new int[] {-1, MIN, MAX, new int[] {Twins.BYTES, Twins.SHORTS, 0}[k]}) {
                lost("26 cell INDEX " + k + " " + i, x -> x.cell(taken, i, taken), INDEX, BARE, MANY);
            }
            lost("26 cell NULL, nothing is no CAST", x -> x.cell(3, 0, taken), NULL, BARE, MANY);
            lost("26 cell NULL ahead of INDEX", x -> x.cell(3, -1, taken), NULL, BARE, MANY);
        }
        faultless("26 cell changes nothing", x -> x.cell(0, 4, 0), 44, BARE, MANY);
    }

    private static void copy() {
        for (int k : new int[] {-1, 4, MIN, MAX}) {
            faultless("27 copy UNKNOWN first " + k, x -> x.copy(k, 0, 0, 0, 1), UNKNOWN, BARE, MANY);
            faultless("27 copy UNKNOWN other " + k, x -> x.copy(0, 0, k, 0, 1), UNKNOWN, BARE, MANY);
            faultless("27 copy UNKNOWN other ahead of NULL", x -> x.copy(3, 0, k, 0, 1), UNKNOWN, BARE, MANY);
            faultless("27 copy UNKNOWN ahead of INDEX", x -> x.copy(0, -1, k, 0, -1), UNKNOWN, BARE, MANY);
        }
        for (int k = 0; k < 3; k++) {
            int taken = k;
            faulty("27 copy NULL the first", x -> x.copy(3, 0, taken, 0, 0), NULL, BARE, MANY);
            faulty("27 copy NULL the other", x -> x.copy(taken, 0, 3, 0, 0), NULL, BARE, MANY);
            faulty("27 copy NULL ahead of INDEX", x -> x.copy(taken, -1, 3, -1, -1), NULL, BARE, MANY);
        }
        faulty("27 copy NULL both", x -> x.copy(3, 0, 3, 0, 0), NULL, BARE, MANY);
        faulty("27 copy CAST, to shorts", x -> x.copy(0, 0, 1, 0, 1), CAST, BARE, MANY);
        faulty("27 copy CAST, to bytes", x -> x.copy(1, 0, 0, 0, 1), CAST, BARE, MANY);
        faulty("27 copy CAST, none taken", x -> x.copy(0, 0, 2, 0, 0), CAST, BARE, MANY);
        faulty("27 copy CAST ahead of INDEX i", x -> x.copy(0, -1, 1, 0, 1), CAST, BARE, MANY);
        faulty("27 copy CAST ahead of INDEX n", x -> x.copy(0, 0, 1, 0, -1), CAST, BARE, MANY);
        int[][] beyond = {{-1, 0, 0}, {0, -1, 0}, {0, 0, -1}, {6, 0, 0}, {0, 6, 0}, {5, 0, 1}, {0, 5, 1}, {0, 0, 6},
            {1, 0, 5}, {0, 1, 5}, {-1, 0, 1}, {0, -1, 1}, {MIN, 0, 1}, {0, MIN, 1}, {0, 0, MIN}, {MAX, 0, 1},
            {0, MAX, 1}, {0, 0, MAX}, {MAX, 0, MAX}, {0, MAX, MAX}, {5, 5, MAX}, {1, 1, MAX}};
        for (int[] row : beyond) {
            faulty("27 copy INDEX " + row[0] + " " + row[1] + " " + row[2],
                x -> x.copy(0, row[0], 0, row[1], row[2]), INDEX, BARE, MANY);
        }
        faulty("27 copy INDEX of no cells", x -> x.copy(2, 0, 2, 0, 1), INDEX, BARE, MANY);
        faultless("27 copy none at the ends", x -> x.copy(0, 5, 0, 5, 0), 0, BARE, MANY);
        faultless("27 copy none of no cells", x -> x.copy(2, 0, 2, 0, 0), 0, BARE, MANY);
        faultless("27 copy onto itself", x -> x.copy(0, 0, 0, 0, 5), 5, BARE, MANY);
    }

    private static void tellAndHail() {
        for (int m : new int[] {-1, 4, MIN, MAX}) {
            refused("28 tell UNKNOWN " + m, x -> x.tell(m), UNKNOWN, BARE, FEW, MANY);
            refused("29 hail UNKNOWN " + m, x -> x.hail(m), UNKNOWN, BARE, FEW, MANY);
        }
        refused("28 tell UNKNOWN 1 of one", x -> x.tell(1), UNKNOWN, FEW);
        refused("28 tell UNKNOWN 0 of none", x -> x.tell(0), UNKNOWN, BARE);
        refused("29 hail UNKNOWN 1 of one", x -> x.hail(1), UNKNOWN, FEW);
        refused("29 hail UNKNOWN 0 of none", x -> x.hail(0), UNKNOWN, BARE);
    }

    private static void as() {
        for (int m : new int[] {-1, 4, MIN, MAX}) {
            faultless("30 as UNKNOWN " + m, x -> x.as(m, 0), UNKNOWN, BARE, FEW, MANY);
            faultless("30 as UNKNOWN ahead of OUTSIDE", x -> x.as(m, 3), UNKNOWN, BARE, FEW, MANY);
        }
        faultless("30 as UNKNOWN 1 of one", x -> x.as(1, 0), UNKNOWN, FEW);
        faultless("30 as UNKNOWN 0 of none", x -> x.as(0, 0), UNKNOWN, BARE);
        for (int kind : new int[] {-1, 3, MIN, MAX}) {
            faultless("30 as OUTSIDE " + kind, x -> x.as(0, kind), OUTSIDE, FEW, MANY);
        }
        faulty("30 as CAST, a man is not bold", x -> x.as(0, 1), CAST, FEW, MANY);
        faulty("30 as CAST, a man is not spiteful", x -> x.as(0, 2), CAST, FEW, MANY);
        faulty("30 as CAST, a bold one is not spiteful", x -> x.as(1, 2), CAST, MANY);
        faultless("30 as, a spiteful one is bold", x -> x.as(2, 1), 1, MANY);
    }

    private static void many() {
        for (int what : new int[] {-1, 4, MIN, MAX}) {
            refused("33 many OUTSIDE " + what, x -> x.many(what), OUTSIDE, BARE, FEW, MANY);
        }
        refused("31 trace changes nothing", x -> x.trace(), 0, BARE, FEW);
        refused("32 fault changes nothing", x -> x.fault(), 4, BARE, FEW, MANY);
    }
}
