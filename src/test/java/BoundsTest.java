/** Nothing and as many as there can be, of readings, men, parishes, cells, pairs; what wraps or is cut. */
public final class BoundsTest {
    private static final int MIN = Integer.MIN_VALUE, MAX = Integer.MAX_VALUE;

    private static final Checks c = new Checks();

    public static void main(String[] args) {
        newObject();
        setsAtTheirEnds();
        answersAtTheirEnds();
        stormOfNoneAndTwenty();
        stormFromCutCells();
        placeFewAndMany();
        placeFirstAsARow();
        teachNothingAndAll();
        worstFewAndMany();
        fairAtItsEnds();
        worthAtItsEnds();
        readingsNoneAndEight();
        truthsNoneOneAll();
        stoodNoneOneAll();
        kindsNoneOneAll();
        knewNoneOneAll();
        oddsAtTheirEnds();
        rowsOfNoneAndSixty();
        cellsAreCut();
        copyNoneAndAll();
        copyOverItself();
        tellingAtTheEnds();
        traceWraps();
        c.end("BoundsTest");
    }

    // 1

    private static void newObject() {
        ThunderAsks x = new ThunderAsks();
        c.due("1 fault() ahead of any", x.fault(), 0);
        c.due("1 trace() at first", x.trace(), 0);
        for (int k = 0; k < 4; k++) {
            for (int lane = 0; lane < 3; lane++) {
                c.dueFault("1 sheet " + k + " has nothing", x, x.cell(k, 0, lane), Checks.LOST, 1);
            }
        }
        for (int m = 0; m < 4; m++) {
            c.due("1 no man " + m, x.ofMan(m, 0), -1);
        }
        for (int p = 0; p < 6; p++) {
            c.due("1 no parish " + p, x.dangers(p), -1);
        }
        c.due("1 no county", x.truth(0), -3);
        ThunderAsks other = Checks.settled("d212,m000");
        c.due("1 objects have nothing of one another", other.many(1) * 10 + x.many(1), 20);
    }

    // 4, 5, 6

    private static void setsAtTheirEnds() {
        ThunderAsks x = Checks.settled("d216,m043");
        c.due("4 truth 0", x.truth(0), 21);
        c.due("4 truth 63", x.truth(63), 0);
        c.due("4 the truth is 63", x.many(2), 63);
        c.due("5 the first parish again", x.stand(0, 0), 0);
        c.due("5 the last parish", x.stand(0, 5), 0);
        c.due("5 back to the first", x.stand(0, 0), 5);
        c.due("6 list 0", x.learn(0, 0), 43);
        c.due("6 list 63", x.learn(0, 63), 0);
        c.due("6 his list is 63", x.ofMan(0, 2), 63);
    }

    // 7

    private static void answersAtTheirEnds() {
        int none = -9;
        int[][] due = {
            // truth 0, list 0; truth 0, list 63; truth 63, list 0; truth 63, list 63
            {none, 0, none, 1}, {1, 0, 1, 1}, {none, 1, none, 0}};
        ThunderAsks x = Checks.settled("d002,m000,b000,s000");
        for (int t = 0; t < 4; t++) {
            x.truth(t < 2 ? 0 : 63);
            for (int m = 0; m < 3; m++) {
                x.learn(m, t % 2 == 0 ? 0 : 63);
                for (int q = 0; q < 6; q++) {
                    c.due("7 kind " + m + ", case " + t + ", question " + q, x.answer(m, q), due[m][t]);
                }
            }
        }
    }

    // 10

    private static void stormOfNoneAndTwenty() {
        ThunderAsks x = Checks.settled("d006,m063,s163");
        stormDue("none", x, 0, 0, -9, 0);
        int[] pairs = new int[40];
        writeStorm(x, pairs);
        stormDue("twenty held", x, 20, 0, -9, 0);
        pairs[38] = 5;
        pairs[39] = 5;
        writeStorm(x, pairs);
        stormDue("the twentieth of twenty", x, 20, 1, 19, 32);
        stormDue("nineteen of them", x, 19, 0, -9, 0);
        for (int t = 0; t < 20; t++) {
            pairs[2 * t] = 1 + t % 5;
            pairs[2 * t + 1] = t % 6;
        }
        writeStorm(x, pairs);
        stormDue("all twenty", x, 20, 20, 0, 62);
        stormDue("the first alone", x, 1, 1, 0, 2);
        ThunderAsks spiteful = Checks.settled("d006,s063");
        Checks.write(spiteful, 1, 2, 5, 0, 4, 1, 3, 2, 2, 3, 1, 4, 0, 5);
        c.due("10 all six parishes", spiteful.storm(1, 2, 0, 6, 2), 63);
    }

    private static void writeStorm(ThunderAsks x, int[] pairs) {
        Checks.write(x, 1, 1, pairs);
    }

    private static void stormDue(String told, ThunderAsks x, int n, int often, int first, int parishes) {
        if (n == 0) {
            x.sheet(1, 1, 0);
        }
        c.dueFault("10 " + told + ", how often", x, x.storm(1, 1, 0, n, 0), often, 0);
        c.dueFault("10 " + told + ", the first", x, x.storm(1, 1, 0, n, 1), first, 0);
        c.dueFault("10 " + told + ", parishes", x, x.storm(1, 1, 0, n, 2), parishes, 0);
    }

    private static void stormFromCutCells() {
        // parish 0 is struck by question 5 alone, parish 1 by all
        ThunderAsks x = Checks.settled("d002,m031");
        Checks.write(x, 0, 0, 256, 261, 257, -256);
        Checks.write(x, 1, 1, 65536, 65541, 65537, 0);
        Checks.write(x, 2, 2, 0, 256, 256, 0);
        c.due("10 bytes are cut", x.storm(0, 0, 0, 2, 2), 3);
        c.due("10 shorts are cut", x.storm(1, 1, 0, 2, 2), 3);
        c.due("10 ints are not, a question", x.storm(2, 2, 0, 1, 2), -2);
        c.due("10 ints are not, a parish", x.storm(2, 2, 2, 1, 2), -1);
        c.due("14 bytes are cut, upper", x.fair(0, 0, 0, 1, 0), 5);
        c.due("14 shorts are cut, lower", x.fair(1, 1, 0, 1, 1), 6);
        c.due("14 ints are not", x.fair(2, 2, 1, 1, 1), Checks.LOST);
    }

    // 11

    private static void placeFewAndMany() {
        ThunderAsks x = Checks.settled("d636,m001,m002,m004,m008");
        int[] pairs = new int[40];
        for (int t = 0; t < 20; t++) {
            pairs[2 * t] = 5;
            pairs[2 * t + 1] = t % 4;
        }
        writeStorm(x, pairs);
        placeDue("all in the last parish", x, 20, 0, 5, 5, 5, 5);
        for (int t = 0; t < 20; t++) {
            pairs[2 * t + 1] = 4;
        }
        writeStorm(x, pairs);
        placeDue("nobody knows", x, 20, 20, 0, 0, 0, 0);
        placeDue("no pairs", x, 0, 0, 0, 0, 0, 0);
        c.due("11 none moved", x.ofMan(3, 1), 0);
        ThunderAsks few = Checks.settled("d632,m001");
        writeStorm(few, new int[] {1, 0, 0, 0, 1, 0});
        placeDue("one man, two parishes", few, 3, 1, 1);
        placeDue("one pair", few, 1, 0, 1);
        placeDue("either parish", few, 2, 1, 0);
    }

    /** How often, the parish of each man, and no man behind the last. */
    private static void placeDue(String told, ThunderAsks x, int n, int often, int... parishes) {
        c.due("11 " + told + ", how often", x.place(-1, 1, 1, 0, n), often);
        for (int m = 0; m < parishes.length; m++) {
            c.due("11 " + told + ", man " + m, x.place(m, 1, 1, 0, n), parishes[m]);
        }
        c.due("11 " + told + ", no such man", x.place(parishes.length, 1, 1, 0, n), -9);
    }

    private static void placeFirstAsARow() {
        // two men alike: (0, 1) is ahead of (1, 0)
        ThunderAsks x = Checks.settled("d633,m201,m201");
        writeStorm(x, new int[] {1, 0, 0, 0});
        placeDue("two alike", x, 2, 0, 0, 1);
        // a spiteful one has to go aside, and the first parish that is aside is taken
        ThunderAsks aside = Checks.settled("d633,s063,m001");
        writeStorm(aside, new int[] {0, 0, 1, 0});
        placeDue("the spiteful one aside", aside, 2, 1, 0, 1);
        writeStorm(aside, new int[] {0, 0, 0, 0, 1, 0});
        placeDue("aside, in the middle", aside, 3, 1, 1, 0);
        // a bold one beside a man: what he answers wrong is struck
        ThunderAsks bold = Checks.settled("d002,b000,m063");
        writeStorm(bold, new int[] {0, 0, 1, 0, 1, 0});
        placeDue("the bold one aside", bold, 3, 1, 0, 1);
    }

    // 12

    private static void teachNothingAndAll() {
        ThunderAsks x = Checks.settled("d212,m000,b100,s100,m163");
        int[] pairs = new int[40];
        for (int t = 0; t < 20; t++) {
            pairs[2 * t + 1] = t % 6;
        }
        writeStorm(x, pairs);
        c.due("12 twenty pairs, all six", x.teach(0, 1, 1, 0, 20), 63);
        c.due("12 no pairs", x.teach(0, 1, 1, 40, 0), 0);
        c.due("12 the first alone", x.teach(0, 1, 1, 0, 1), 1);
        c.due("12 the last question", x.teach(0, 1, 1, 10, 1), 32);
        x.learn(0, 63);
        c.due("12 he knows all", x.teach(0, 1, 1, 0, 20), 0);
        c.due("12 it never strikes, another man", x.teach(2, 1, 1, 0, 20), 0);
        x.learn(0, 62);
        c.due("12 one question less", x.teach(0, 1, 1, 0, 20), 1);
        c.due("12 NONE, he stands elsewhere", x.teach(3, 1, 1, 0, 20), -9);
        pairs[38] = 1;
        pairs[39] = 1;
        writeStorm(x, pairs);
        c.due("12 NONE, the twentieth pair is elsewhere", x.teach(0, 1, 1, 0, 20), -9);
        c.due("12 nineteen pairs", x.teach(0, 1, 1, 0, 19), 1);
        writeStorm(x, new int[] {1, 0, 1, 1, 1, 2, 1, 3, 1, 4, 1, 5});
        c.due("12 a bold one lacks what is not so", x.teach(1, 1, 1, 0, 6), 42);
        x.learn(2, 1);
        c.due("12 NONE, a spiteful one can't unlearn", x.teach(2, 1, 1, 0, 1), -9);
    }

    // 13

    private static void worstFewAndMany() {
        worstDue("all six struck, from the first", "d006,m000", 0, 0, 1, 2, 3, 4, 5, 6, 6, 6, 6, 6, 6, 6);
        worstDue("from the second", "d006,m000", 1, 0, 1, 2, 3, 4, 5, 5, 6, 6, 6, 6, 6, 6);
        worstDue("from the third", "d006,m000", 2, 0, 1, 2, 3, 4, 4, 5, 5, 6, 6, 6, 6, 6);
        worstDue("from the last", "d006,m000", 5, 0, 1, 2, 3, 4, 5, 6, 6, 6, 6, 6, 6, 6);
        worstDue("of two one, from the other", "d002,m063", 0, 0, 0, 1, 1, 1, 1, 1, 1, 1, 1, 1, 1, 1);
        worstDue("of two one, from it", "d002,m063", 1, 0, 1, 1, 1, 1, 1, 1, 1, 1, 1, 1, 1, 1);
        worstDue("of two none", "d002,m063,m163", 0, 0, 0, 0, 0, 0, 0, 0, 0, 0, 0, 0, 0, 0);
        worstDue("one danger is enough", "d002,m062,m131", 0, 0, 1, 2, 2, 2, 2, 2, 2, 2, 2, 2, 2, 2);
        worstDue("the far end alone", "d006,m063,m163,m263,m363", 0, 0, 0, 0, 0, 0, 1, 2, 2, 2, 2, 2, 2, 2);
    }

    private static void worstDue(String told, String text, int p, int... due) {
        ThunderAsks x = Checks.settled(text);
        for (int n = 0; n <= 12; n++) {
            c.due("13 " + told + ", by " + n, x.worst(p, n), due[n]);
        }
        c.due("13 " + told + ", by -1", x.worst(p, -1), -2);
        c.due("13 " + told + ", by 13", x.worst(p, 13), -2);
    }

    // 14

    private static void fairAtItsEnds() {
        fairDue("five of six, once", 62, 1, 5, 6);
        fairDue("five of six, twenty times", 62, 20, 95367431640625L, 3656158440062976L);
        fairDue("one of six, twenty times", 1, 20, 1, 3656158440062976L);
        fairDue("three of six, twenty times", 7, 20, 1, 1048576);
        fairDue("two of six, twenty times", 3, 20, 1, 3486784401L);
        fairDue("four of six, twenty times", 15, 20, 1048576, 3486784401L);
        fairDue("all of six, twenty times", 63, 20, 1, 1);
        fairDue("none of six, once", 0, 1, 0, 1);
        fairDue("none of six, twenty times", 0, 20, 0, 1);
        fairDue("none is asked", 0, 0, 1, 1);
    }

    private static void fairDue(String told, int list, int n, long upper, long lower) {
        ThunderAsks x = Checks.settled("d216,m500");
        x.learn(0, list);
        Checks.write(x, 2, 0, 5, 5, 5, 5, 5, 5, 5, 5, 5, 5, 5, 5, 5, 5, 5, 5, 5, 5, 5, 5);
        c.dueFault("14 " + told + ", upper", x, x.fair(2, 0, 20 - n, n, 0), upper, 0);
        c.dueFault("14 " + told + ", lower", x, x.fair(2, 0, 20 - n, n, 1), lower, 0);
    }

    // 15

    private static void worthAtItsEnds() {
        String[] texts = {"d002,m063", "d002,m000", "d002,s063", "d002,b000", "d632,b000", "d002,m063,m063",
            "d002,m063,s063", "d006,m563,s400", "d002,m063,b000"};
        int[][] due = {{106}, {100}, {100}, {100}, {106}, {100, 100}, {100, 94}, {106, 100}, {100, 94}};
        for (int t = 0; t < texts.length; t++) {
            ThunderAsks x = Checks.settled(texts[t]);
            for (int m = 0; m < due[t].length; m++) {
                c.due("15 " + texts[t] + ", man " + m, x.worth(m), due[t][m]);
            }
            c.due("15 " + texts[t] + ", no such man", x.worth(due[t].length), -1);
        }
    }

    // 16, 17

    private static void readingsNoneAndEight() {
        ThunderAsks x = Checks.settled("d212,m001");
        for (int r = 0; r < 8; r++) {
            c.due("33 readings ahead of " + r, x.many(3), r);
            c.due("16 reading " + r, x.reading(1, r % 6, true), r);
        }
        c.due("16 a ninth", x.reading(1, 0, true), -4);
        c.due("33 still eight", x.many(3), 8);
        c.due("17 back(9) of eight", x.back(9), -2);
        c.due("17 back(1)", x.back(1), 7);
        c.due("16 there is room again", x.reading(0, 0, false), 7);
        c.due("16 full again", x.reading(0, 0, false), -4);
        c.due("17 back(8)", x.back(8), 0);
        c.due("17 back(0) of none", x.back(0), 0);
        c.due("17 back(1) of none", x.back(1), -2);
        c.due("18 taken back, all truths", x.truths(0), 64);
        c.due("16 from 0 on again", x.reading(0, 0, false), 0);
        // the last ones are taken back, not the first ones
        x.reading(0, 1, false);
        c.due("20 by both", x.kinds(0), 0);
        x.back(1);
        c.due("20 by the first", x.kinds(0), 3);
    }

    // 18

    private static void truthsNoneOneAll() {
        // a bold one who knows nothing: struck by what is not so
        int[] leasts = {0, 63, 21, 42};
        for (int truth : leasts) {
            ThunderAsks x = Checks.settled("d212,b000");
            truthsDue("no readings", x, 64, 0, 32, 32, 32, 32, 32, 32);
            for (int q = 0; q < 6; q++) {
                x.reading(0, q, (truth >> q & 1) == 0);
            }
            int[] holds = new int[6];
            for (int q = 0; q < 6; q++) {
                holds[q] = truth >> q & 1;
            }
            truthsDue("one is left", x, 1, truth, holds);
            x.reading(1, 0, true);
            x.reading(1, 5, true);
            truthsDue("one is left by eight", x, 1, truth, holds);
            x.back(1);
            x.reading(1, 5, false);
            truthsDue("the eighth can't be so", x, 0, -9, 0, 0, 0, 0, 0, 0);
        }
        ThunderAsks x = Checks.settled("d212,b000");
        x.reading(0, 0, true);
        x.reading(0, 0, false);
        truthsDue("struck and held", x, 0, -9, 0, 0, 0, 0, 0, 0);
        c.due("18 the truth stays", x.many(2), 21);
    }

    private static void truthsDue(String told, ThunderAsks x, int count, int least, int... holds) {
        c.due("18 " + told + ", how many", x.truths(0), count);
        c.due("18 " + told + ", the least", x.truths(1), least);
        for (int q = 0; q < 6; q++) {
            c.due("18 " + told + ", of them " + q, x.truths(10 + q), holds[q]);
        }
    }

    // 19

    private static void stoodNoneOneAll() {
        for (int parishes = 2; parishes <= 6; parishes++) {
            int all = (1 << parishes) - 1;
            ThunderAsks x = Checks.settled("d21" + parishes + ",m001");
            c.due("19 anywhere of " + parishes, x.stood(0), all);
            for (int p = 0; p < parishes; p++) {
                x.reading(p, 0, false);
                c.due("19 just there, " + p, x.stood(0), 1 << p);
                x.back(1);
                x.reading(p, 0, true);
                c.due("19 anywhere but there, " + p, x.stood(0), all - (1 << p));
                x.back(1);
            }
            x.reading(0, 0, false);
            x.reading(parishes - 1, 0, false);
            c.due("19 nowhere of " + parishes, x.stood(0), 0);
        }
    }

    // 20

    private static void kindsNoneOneAll() {
        // he knows question 0; 2 is so, 1 is not
        ThunderAsks x = Checks.settled("d212,m001");
        c.due("20 all kinds", x.kinds(0), 0b111);
        x.reading(0, 0, false);
        x.reading(0, 2, true);
        c.due("20 just a man", x.kinds(0), 0b001);
        x.back(2);
        x.reading(0, 2, false);
        c.due("20 just a bold one", x.kinds(0), 0b010);
        x.back(1);
        x.reading(0, 0, true);
        c.due("20 just a spiteful one", x.kinds(0), 0b100);
        x.reading(0, 2, false);
        c.due("20 none", x.kinds(0), 0);
        c.due("20 his kind stays", x.ofMan(0, 0), 0);
    }

    // 21

    private static void knewNoneOneAll() {
        for (int set : new int[] {0, 63, 1, 32, 42}) {
            ThunderAsks x = Checks.settled("d212,m009");
            c.due("21 all lists", x.knew(0, 0), 64);
            c.due("21 of all the fewest", x.knew(0, 1), 0);
            for (int q = 0; q < 6; q++) {
                x.reading(0, q, (set >> q & 1) == 0);
            }
            c.due("21 one list", x.knew(0, 0), 1);
            c.due("21 it is " + set, x.knew(0, 1), set);
            x.reading(1, 0, true);
            x.reading(1, 0, false);
            c.due("21 none by eight", x.knew(0, 0), 0);
            c.due("21 none of the fewest", x.knew(0, 1), -9);
        }
        ThunderAsks bold = Checks.settled("d212,b009");
        bold.reading(0, 0, false);
        c.due("21 a bold one needs not know", bold.knew(0, 0), 64);
        bold.reading(0, 5, false);
        c.due("21 but what is not so", bold.knew(0, 1), 32);
        ThunderAsks spiteful = Checks.settled("d212,s009");
        spiteful.reading(0, 0, true);
        c.due("21 a spiteful one harms or not", spiteful.knew(0, 0), 64);
        spiteful.reading(0, 1, false);
        c.due("21 but never helps", spiteful.knew(0, 1), -9);
    }

    // 22

    private static void oddsAtTheirEnds() {
        oddsDue("one man who knows", "d632,m001", 0, 1, 2);
        oddsDue("one man who does not", "d632,m002", 0, 0, 1);
        oddsDue("a spiteful one", "d632,s001", 0, 0, 1);
        oddsDue("nobody there", "d632,m001", 1, 0, 1);
        oddsDue("four who know", "d632,m001,m001,m001,b000", 0, 15, 16);
        oddsDue("three who know and a spiteful one", "d632,m001,m001,b000,s001", 0, 7, 16);
        oddsDue("one who knows, three elsewhere", "d636,m501,m001,s101,b201", 5, 1, 2);
        oddsDue("one who knows, three spiteful ones", "d632,m001,s001,s001,s001", 0, 1, 16);
        oddsDue("a bold one who is wrong", "d002,m001,b000", 0, 1, 4);
        oddsDue("two who know, two who do not", "d632,m001,m001,m000,s000", 0, 3, 4);
    }

    private static void oddsDue(String told, String text, int p, long upper, long lower) {
        ThunderAsks x = Checks.settled(text);
        c.due("22 " + told + ", upper", x.odds(p, 0, 0), upper);
        c.due("22 " + told + ", lower", x.odds(p, 0, 1), lower);
    }

    // 23 to 26

    private static void rowsOfNoneAndSixty() {
        for (int lane = 0; lane < 3; lane++) {
            ThunderAsks x = new ThunderAsks();
            c.dueFault("23 sixty cells", x, x.sheet(3, lane, 60), 1, 0);
            rowDue("23 0 at first", x, lane, 60, 0);
            for (int i = 0; i < 60; i++) {
                x.put(3, i, 7);
            }
            rowDue("25 all sixty", x, lane, 60, 7);
            c.dueFault("23 a smaller row", x, x.sheet(3, lane, 1), 1, 0);
            rowDue("23 it is new", x, lane, 1, 0);
            c.dueFault("23 sixty again", x, x.sheet(3, lane, 60), 1, 0);
            rowDue("23 nothing comes back", x, lane, 60, 0);
            c.dueFault("23 no cells", x, x.sheet(3, lane, 0), 1, 0);
            rowDue("23 a row of none", x, lane, 0, 0);
            c.due("24 a row of none is something", x.lose(3), 1);
            c.due("24 then it has nothing", x.lose(3), 0);
            c.dueFault("26 nothing", x, x.cell(3, 0, lane), Checks.LOST, 1);
            c.due("24 the others had nothing", x.lose(0) + x.lose(1) + x.lose(2), 0);
        }
    }

    private static void rowDue(String told, ThunderAsks x, int lane, int size, int value) {
        for (int i = 0; i < size; i++) {
            c.due(told + ", cell " + i, x.cell(3, i, lane), value);
        }
        c.dueFault(told + ", cell " + size, x, x.cell(3, size, lane), Checks.LOST, 3);
        c.dueFault(told + ", cell -1", x, x.cell(3, -1, lane), Checks.LOST, 3);
        c.dueFault(told + ", put " + size, x, x.put(3, size, 9), Checks.INDEX, 3);
        c.dueFault(told + ", put -1", x, x.put(3, -1, 9), Checks.INDEX, 3);
    }

    private static void cellsAreCut() {
        int[][] values = {
            // what is put, what bytes make of it, what shorts make of it
            {127, 127, 127}, {128, -128, 128}, {-128, -128, -128}, {-129, 127, -129}, {255, -1, 255}, {256, 0, 256},
            {-256, 0, -256}, {32767, -1, 32767}, {32768, 0, -32768}, {-32768, 0, -32768}, {-32769, -1, 32767},
            {65535, -1, -1}, {65536, 0, 0}, {MAX, -1, -1}, {MIN, 0, 0}, {-1, -1, -1}, {0, 0, 0}};
        ThunderAsks x = new ThunderAsks();
        for (int lane = 0; lane < 3; lane++) {
            x.sheet(lane, lane, 1);
        }
        for (int[] row : values) {
            for (int lane = 0; lane < 3; lane++) {
                int due = lane == 2 ? row[0] : row[lane + 1];
                c.dueFault("25 put " + row[0] + " in lane " + lane, x, x.put(lane, 0, row[0]), 1, 0);
                c.dueFault("26 " + row[0] + " in lane " + lane, x, x.cell(lane, 0, lane), due, 0);
            }
        }
    }

    // 27

    private static void copyNoneAndAll() {
        for (int lane = 0; lane < 3; lane++) {
            ThunderAsks x = new ThunderAsks();
            x.sheet(0, lane, 60);
            x.sheet(3, lane, 60);
            for (int i = 0; i < 60; i++) {
                x.put(0, i, MIN + 127 + i);
            }
            c.dueFault("27 none, from the end", x, x.copy(0, 60, 3, 60, 0), 0, 0);
            rowDue("27 nothing went", x, lane, 60, 0);
            c.dueFault("27 all sixty", x, x.copy(0, 0, 3, 0, 60), 60, 0);
            for (int i = 0; i < 60; i++) {
                c.due("27 as they were, cell " + i, x.cell(3, i, lane), x.cell(0, i, lane));
            }
            c.dueFault("27 sixty-one", x, x.copy(0, 0, 3, 0, 61), Checks.INDEX, 3);
            c.dueFault("27 from 61", x, x.copy(0, 61, 3, 0, 0), Checks.INDEX, 3);
            c.dueFault("27 to 61", x, x.copy(0, 0, 3, 61, 0), Checks.INDEX, 3);
        }
    }

    /** Cells go as they were ahead of the call, whichever way they go. */
    private static void copyOverItself() {
        for (int shift = -4; shift <= 4; shift++) {
            ThunderAsks x = new ThunderAsks();
            Checks.write(x, 1, 2, 10, 11, 12, 13, 14);
            int from = Math.max(0, -shift);
            int to = Math.max(0, shift);
            int n = 5 - Math.abs(shift);
            c.dueFault("27 by " + shift, x, x.copy(1, from, 1, to, n), n, 0);
            for (int i = 0; i < 5; i++) {
                int due = i >= to && i < to + n ? 10 + i - shift : 10 + i;
                c.due("27 by " + shift + ", cell " + i, x.cell(1, i, 2), due);
            }
        }
    }

    // 28 to 31

    private static void tellingAtTheEnds() {
        ThunderAsks x = Checks.settled("d006,m500,b500,s500,m000");
        int[] first = {5, 105, 110, 0};
        int[] then = {0, 100, 100, 5};
        int[] hailed = {0, 1, 60, 3};
        for (int m = 0; m < 4; m++) {
            c.due("28 tell(" + m + ")", x.tell(m), first[m]);
            c.due("29 hail(" + m + ")", x.hail(m), hailed[m]);
            x.stand(m, 5 - x.ofMan(m, 1));
            c.due("28 tell(" + m + ") elsewhere", x.tell(m), then[m]);
        }
    }

    private static void traceWraps() {
        int[] due = {1, 32, 993, 30784, 954305, 29583456, 917087137, -1635069824};
        ThunderAsks x = Checks.settled("d006,m500,s000");
        c.due("31 at first", x.trace(), 0);
        for (int t = 0; t < due.length; t++) {
            x.tell(0);
            c.due("31 by " + (t + 1) + " bodies", x.trace(), due[t]);
        }
        ThunderAsks y = Checks.settled("d006,m500,s000");
        y.tell(1);
        c.due("31 3, 2, 1, 1", y.trace(), ((3 * 31 + 2) * 31 + 1) * 31 + 1);
        y.hail(1);
        c.due("31 then 5", y.trace(), 91327L * 31 + 5);
        y.hail(0);
        c.due("31 then 4", y.trace(), 2831142L * 31 + 4);
        y.hail(0);
        // 87765406 * 31 + 4 is above what an int can be
        c.due("31 it wraps", y.trace(), 2720727590L - 4294967296L);
    }
}
