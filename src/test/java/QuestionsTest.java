/** Promises 7 to 10. */
public final class QuestionsTest {
    private static final Checks c = new Checks();

    public static void main(String[] args) {
        answer();
        strikes();
        dangers();
        storm();
        stormPairByPair();
        stormRefusals();
        c.end("QuestionsTest");
    }

    private static void answer() {
        // truth 1, 3, 5; each knows 1 and 2
        ThunderAsks x = Checks.settled("d422,m006,b006,s006");
        int[][] due = {{-9, 1, 0, -9, -9, -9}, {1, 1, 0, 1, 1, 1}, {-9, 0, 1, -9, -9, -9}};
        for (int m = 0; m < 3; m++) {
            for (int q = 0; q < 6; q++) {
                c.due("answer(" + m + ", " + q + ")", x.answer(m, q), due[m][q]);
            }
        }
        c.due("answer(3, 9)", x.answer(3, 9), -1);
        c.due("answer(-1, 0)", x.answer(-1, 0), -1);
        c.due("answer(0, -1)", x.answer(0, -1), -2);
        c.due("answer(0, 6)", x.answer(0, 6), -2);
    }

    private static void strikes() {
        ThunderAsks x = Checks.settled("d423,m006,s104,m106");
        c.due("one right", x.strikes(0, 1), 0);
        c.due("none answers", x.strikes(0, 0), 1);
        c.due("right and wrong", x.strikes(1, 2), 1);
        c.due("right, the other does not answer", x.strikes(1, 1), 0);
        c.due("nobody there", x.strikes(2, 1), 1);
        c.due("strikes(3, 9)", x.strikes(3, 9), -1);
        c.due("strikes(-1, 0)", x.strikes(-1, 0), -1);
        c.due("strikes(0, -1)", x.strikes(0, -1), -2);
        c.due("strikes(0, 6)", x.strikes(0, 6), -2);
    }

    private static void dangers() {
        ThunderAsks x = Checks.settled("d423,m006,b106,s002");
        c.due("a man and a spiteful one", x.dangers(0), 63 & ~4);
        c.due("a bold one", x.dangers(1), 0b010001);
        c.due("nobody", x.dangers(2), 63);
        c.due("dangers(3)", x.dangers(3), -1);
        c.due("dangers(-1)", x.dangers(-1), -1);
    }

    private static void storm() {
        ThunderAsks x = Checks.settled("d423,m006,b106");
        Checks.write(x, 1, 0, 7, 0, 1, 1, 0, 2, 5, 2, 4, 0, 2);
        c.due("how often", x.storm(1, 0, 1, 5, 0), 3);
        c.due("the first", x.storm(1, 0, 1, 5, 1), 1);
        c.due("parishes", x.storm(1, 0, 1, 5, 2), 6);
        c.due("never, how often", x.storm(1, 0, 1, 1, 0), 0);
        c.due("never, the first", x.storm(1, 0, 1, 1, 1), -9);
        c.due("never, parishes", x.storm(1, 0, 1, 1, 2), 0);
        c.due("no pairs, at the end", x.storm(1, 0, 11, 0, 1), -9);
        Checks.write(x, 2, 2, new int[60]);
        c.due("20 pairs", x.storm(2, 2, 20, 20, 0), 20);
        c.due("20 pairs, parishes", x.storm(2, 2, 0, 20, 2), 1);
    }

    private static void stormPairByPair() {
        ThunderAsks x = Checks.settled("d423,m006");
        Checks.write(x, 1, 1, 0, 6, 3, 0);
        c.dueFault("the question first", x, x.storm(1, 1, 0, 2, 0), -2, 0);
        Checks.write(x, 1, 1, 3, 0, 0, 6);
        c.dueFault("the parish first", x, x.storm(1, 1, 0, 2, 0), -1, 0);
        Checks.write(x, 1, 1, 3, 6);
        c.dueFault("of a pair the parish first", x, x.storm(1, 1, 0, 1, 0), -1, 0);
        Checks.write(x, 1, 1, -1, 0, 0, -1);
        c.due("parish -1", x.storm(1, 1, 0, 1, 1), -1);
        c.due("question -1", x.storm(1, 1, 2, 1, 1), -2);
        c.due("none of them is looked at", x.storm(1, 1, 0, 0, 0), 0);
    }

    private static void stormRefusals() {
        ThunderAsks x = new ThunderAsks();
        Checks.write(x, 1, 1, 9, 9, 9);
        c.dueFault("storm(4, 3, 9, 21, 3)", x, x.storm(4, 3, 9, 21, 3), -1, 0);
        c.dueFault("storm(-1, 1, 0, 0, 0)", x, x.storm(-1, 1, 0, 0, 0), -1, 0);
        c.dueFault("lane 3", x, x.storm(1, 3, 9, 1, 0), -2, 0);
        c.dueFault("n -1", x, x.storm(2, 1, 0, -1, 0), -2, 0);
        c.dueFault("n 21", x, x.storm(2, 1, 0, 21, 0), -2, 0);
        c.dueFault("what -1", x, x.storm(1, 2, 9, 1, -1), -2, 0);
        c.dueFault("what 3", x, x.storm(1, 2, 9, 1, 3), -2, 0);
        c.dueFault("another lane", x, x.storm(1, 2, 9, 1, 0), Checks.CAST, 2);
        c.dueFault("nothing", x, x.storm(2, 2, 9, 1, 0), Checks.NULL, 1);
        c.dueFault("i -1", x, x.storm(1, 1, -1, 0, 0), Checks.INDEX, 3);
        c.dueFault("i 4", x, x.storm(1, 1, 4, 0, 0), Checks.INDEX, 3);
        c.dueFault("2 n beyond", x, x.storm(1, 1, 0, 2, 0), Checks.INDEX, 3);
        c.dueFault("i far beyond", x, x.storm(1, 1, Integer.MAX_VALUE, 20, 0), Checks.INDEX, 3);
        c.dueFault("no county, pairs unlooked", x, x.storm(1, 1, 0, 1, 0), -3, 0);
        c.dueFault("no county, no pairs", x, x.storm(1, 1, 3, 0, 0), -3, 0);
    }
}
