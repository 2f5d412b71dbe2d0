/** Promises 16 to 22. */
public final class ReadingsTest {
    private static final Checks c = new Checks();

    public static void main(String[] args) {
        reading();
        back();
        noReadings();
        truths();
        stood();
        kinds();
        knew();
        odds();
        c.end("ReadingsTest");
    }

    private static void reading() {
        ThunderAsks x = Checks.settled("d214,m043");
        c.due("reading(4, 9, true)", x.reading(4, 9, true), -1);
        c.due("reading(-1, 0, true)", x.reading(-1, 0, true), -1);
        c.due("reading(0, 6, true)", x.reading(0, 6, true), -2);
        c.due("reading(0, -1, true)", x.reading(0, -1, true), -2);
        for (int r = 0; r < 8; r++) {
            c.due("reading " + r, x.reading(0, 0, false), r);
        }
        c.due("reading 8", x.reading(0, 0, false), -4);
        c.due("reading 8 of no parish", x.reading(4, 0, false), -1);
        c.due("reading 8 of no question", x.reading(0, 6, false), -2);
        c.due("many(3)", x.many(3), 8);
        c.due("readings outlive other calls", x.truth(0) + x.many(3), 29);
    }

    private static void back() {
        ThunderAsks x = Checks.settled("d214,m043");
        c.due("back(0) of none", x.back(0), 0);
        c.due("back(1) of none", x.back(1), -2);
        x.reading(0, 0, false);
        x.reading(0, 1, true);
        x.reading(0, 2, false);
        c.due("back(-1)", x.back(-1), -2);
        c.due("back(4)", x.back(4), -2);
        c.due("back(0)", x.back(0), 3);
        c.due("stood(0) by three", x.stood(0), 0);
        c.due("back(2)", x.back(2), 1);
        c.due("stood(0) by the first", x.stood(0), 1);
        c.due("the next number", x.reading(1, 2, true), 1);
        c.due("back(2) again", x.back(2), 0);
    }

    private static void noReadings() {
        ThunderAsks x = Checks.settled("d214,m043");
        c.due("truths(0)", x.truths(0), 64);
        c.due("truths(1)", x.truths(1), 0);
        c.due("truths(12)", x.truths(12), 32);
        c.due("stood(0)", x.stood(0), 15);
        c.due("kinds(0)", x.kinds(0), 7);
        c.due("knew(0, 0)", x.knew(0, 0), 64);
        c.due("knew(0, 1)", x.knew(0, 1), 0);
    }

    private static void truths() {
        ThunderAsks x = new ThunderAsks();
        c.due("truths(2), no county", x.truths(2), -2);
        c.due("truths(0), no county", x.truths(0), -3);
        c.due("truths(15), no county", x.truths(15), -3);
        x = Checks.settled("d212,b000,m163");
        x.reading(0, 1, false);
        x.reading(0, 3, true);
        c.due("truths(0)", x.truths(0), 16);
        c.due("truths(1)", x.truths(1), 2);
        c.due("truths(10)", x.truths(10), 8);
        c.due("truths(11)", x.truths(11), 16);
        c.due("truths(13)", x.truths(13), 0);
        c.due("truths(15)", x.truths(15), 8);
        for (int what : new int[] {-1, 2, 9, 16, Integer.MIN_VALUE, Integer.MIN_VALUE + 10}) {
            c.due("truths(" + what + ")", x.truths(what), -2);
        }
        x.reading(1, 0, true);
        c.due("none, how many", x.truths(0), 0);
        c.due("none, the least", x.truths(1), -9);
        c.due("none, of them", x.truths(11), 0);
        c.due("the truth stays", x.many(2), 21);
    }

    private static void stood() {
        ThunderAsks x = Checks.settled("d634,m001,s101");
        x.reading(2, 0, true);
        c.due("elsewhere", x.stood(0), 0b1011);
        x.reading(1, 0, true);
        c.due("beside the spiteful one", x.stood(0), 0b1011);
        c.due("anywhere", x.stood(1), 0b1111);
        x.reading(3, 0, false);
        c.due("there", x.stood(0), 0b1000);
        c.due("nowhere", x.stood(1), 0);
        c.due("he stays", x.ofMan(0, 1), 0);
        c.due("stood(2)", x.stood(2), -1);
        c.due("stood(-1)", x.stood(-1), -1);
    }

    private static void kinds() {
        ThunderAsks x = Checks.settled("d022,m001");
        x.reading(0, 0, false);
        c.due("not spiteful", x.kinds(0), 0b011);
        x.reading(0, 1, false);
        c.due("bold", x.kinds(0), 0b010);
        x.reading(0, 2, false);
        c.due("none", x.kinds(0), 0);
        x.back(3);
        x.reading(0, 1, true);
        c.due("not bold", x.kinds(0), 0b101);
        c.due("he stays", x.ofMan(0, 0), 0);
        c.due("kinds(1)", x.kinds(1), -1);
        c.due("kinds(-1)", x.kinds(-1), -1);
    }

    private static void knew() {
        ThunderAsks x = Checks.settled("d022,m001,b100");
        x.reading(0, 2, false);
        x.reading(0, 4, false);
        x.reading(0, 0, true);
        c.due("how many", x.knew(0, 0), 8);
        c.due("the fewest", x.knew(0, 1), 0b10100);
        c.due("none, how many", x.knew(1, 0), 0);
        c.due("none, the fewest", x.knew(1, 1), -9);
        x.back(3);
        x.reading(1, 3, false);
        c.due("bold, how many", x.knew(1, 0), 32);
        c.due("bold, the fewest", x.knew(1, 1), 8);
        x.back(1);
        for (int q = 0; q < 6; q++) {
            x.reading(0, q, false);
        }
        c.due("all six, how many", x.knew(0, 0), 1);
        c.due("all six, the fewest", x.knew(0, 1), 63);
        c.due("the list stays", x.ofMan(0, 2), 1);
        c.due("knew(2, 9)", x.knew(2, 9), -1);
        c.due("knew(-1, 0)", x.knew(-1, 0), -1);
        c.due("knew(0, -1)", x.knew(0, -1), -2);
        c.due("knew(0, 2)", x.knew(0, 2), -2);
    }

    private static void odds() {
        ThunderAsks x = Checks.settled("d634,m003,m001,s001,m107");
        long[][] due = {{0, 0, 3, 8}, {0, 1, 1, 2}, {0, 2, 0, 1}, {1, 2, 1, 2}, {1, 3, 0, 1}, {3, 0, 0, 1}};
        for (long[] row : due) {
            int p = (int) row[0];
            int q = (int) row[1];
            c.due("odds(" + p + ", " + q + ", 0)", x.odds(p, q, 0), row[2]);
            c.due("odds(" + p + ", " + q + ", 1)", x.odds(p, q, 1), row[3]);
        }
        x.stand(2, 3);
        x.stand(3, 0);
        c.due("three who know, upper", x.odds(0, 0, 0), 7);
        c.due("three who know, lower", x.odds(0, 0, 1), 8);
        c.due("odds(4, 0, 0)", x.odds(4, 0, 0), Checks.LOST);
        c.due("odds(-1, 0, 0)", x.odds(-1, 0, 0), Checks.LOST);
        c.due("odds(0, 6, 0)", x.odds(0, 6, 0), Checks.LOST);
        c.due("odds(0, -1, 0)", x.odds(0, -1, 0), Checks.LOST);
        c.due("odds(0, 0, 2)", x.odds(0, 0, 2), Checks.LOST);
        c.due("odds(0, 0, -1)", x.odds(0, 0, -1), Checks.LOST);
        x.cell(0, 0, 0);
        x.odds(4, 0, 0);
        c.due("odds names no faults", x.fault(), 1);
    }
}
