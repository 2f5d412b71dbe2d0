/** Promises 11 to 15. */
public final class StormsTest {
    private static final Checks c = new Checks();

    public static void main(String[] args) {
        place();
        placeRefusals();
        teach();
        teachRefusals();
        worst();
        fair();
        fairRefusals();
        worth();
        c.end("StormsTest");
    }

    private static void place() {
        ThunderAsks x = Checks.settled("d634,m001,m002,s263");
        Checks.write(x, 1, 1, 3, 0, 3, 1, 1, 1, 1, 1);
        // man 0 holds a pair, man 1 two by parish 1; the spiteful one stands aside
        c.due("how often", x.place(-1, 1, 1, 0, 4), 1);
        c.due("man 0", x.place(0, 1, 1, 0, 4), 3);
        c.due("man 1", x.place(1, 1, 1, 0, 4), 1);
        c.due("man 2", x.place(2, 1, 1, 0, 4), 0);
        c.due("man 3", x.place(3, 1, 1, 0, 4), -9);
        c.due("man max", x.place(Integer.MAX_VALUE, 1, 1, 0, 4), -9);
        c.due("none moved", x.ofMan(0, 1), 0);
        c.due("no pairs", x.place(-1, 1, 1, 8, 0), 0);
        c.due("no pairs, man 2", x.place(2, 1, 1, 8, 0), 0);
        x.stand(1, 3);
        c.due("where they stand is no matter", x.place(1, 1, 1, 0, 4), 1);
    }

    private static void placeRefusals() {
        ThunderAsks x = new ThunderAsks();
        Checks.write(x, 1, 1, 9, 9, 9);
        c.dueFault("k -2", x, x.place(-2, 1, 2, 0, 0), -1, 0);
        c.dueFault("sheet 4", x, x.place(-1, 4, 3, 0, 0), -1, 0);
        c.dueFault("n 21", x, x.place(9, 1, 2, 0, 21), -2, 0);
        c.dueFault("lane -1", x, x.place(9, 1, -1, 0, 0), -2, 0);
        c.dueFault("another lane", x, x.place(9, 1, 2, 9, 0), Checks.CAST, 2);
        c.dueFault("k -2 behind it", x, x.place(-2, 1, 2, 9, 0), -1, 0);
        c.dueFault("nothing", x, x.place(9, 0, 2, 9, 0), Checks.NULL, 1);
        c.dueFault("2 n beyond", x, x.place(9, 1, 1, 0, 2), Checks.INDEX, 3);
        c.dueFault("no county", x, x.place(9, 1, 1, 0, 1), -3, 0);
        x = Checks.settled("d634,m001");
        Checks.write(x, 1, 1, 4, 6, 0, 6);
        c.dueFault("a parish, ahead of no such man", x, x.place(9, 1, 1, 0, 1), -1, 0);
        c.dueFault("a question", x, x.place(9, 1, 1, 2, 1), -2, 0);
    }

    private static void teach() {
        ThunderAsks x = Checks.settled("d422,m001,b100,s004");
        Checks.write(x, 1, 2, 0, 0, 0, 1, 0, 3, 1, 1);
        c.due("what he lacks", x.teach(0, 1, 2, 0, 4), 0b1010);
        c.due("he lacks nothing", x.teach(0, 1, 2, 0, 1), 0);
        c.due("the bold one can't help there", x.teach(1, 1, 2, 0, 4), -9);
        Checks.write(x, 1, 2, 1, 0, 1, 1, 1, 4, 1, 0);
        c.due("the bold one, by what is not so", x.teach(1, 1, 2, 0, 4), 0b010001);
        c.due("another man, elsewhere", x.teach(0, 1, 2, 0, 4), -9);
        Checks.write(x, 1, 2, 0, 2);
        c.due("beside a spiteful one", x.teach(0, 1, 2, 0, 1), -9);
        c.due("a spiteful one never helps", x.teach(2, 1, 2, 0, 1), -9);
        Checks.write(x, 1, 2, 0, 0);
        c.due("a spiteful one who does not harm", x.teach(2, 1, 2, 0, 1), 0);
        Checks.write(x, 1, 2, 1, 0, 1, 1, 1, 2, 1, 3, 1, 4, 1, 5);
        x.stand(0, 1);
        x.stand(1, 0);
        x.learn(0, 0);
        c.due("all six", x.teach(0, 1, 2, 0, 6), 63);
        c.due("five of them", x.teach(0, 1, 2, 2, 5), 62);
        x.learn(0, 1);
        c.due("five more", x.teach(0, 1, 2, 0, 6), 62);
        c.due("none learnt", x.ofMan(0, 2), 1);
        c.due("none learnt, bold", x.ofMan(1, 2), 0);
    }

    private static void teachRefusals() {
        ThunderAsks x = new ThunderAsks();
        Checks.write(x, 1, 1, 9, 9, 9);
        c.dueFault("no man", x, x.teach(0, 1, 2, 0, 0), -1, 0);
        x = Checks.settled("d634,m001");
        Checks.write(x, 1, 1, 4, 6, 0, 6);
        c.dueFault("man -1", x, x.teach(-1, 1, 2, 0, 0), -1, 0);
        c.dueFault("sheet 4", x, x.teach(0, 4, 3, 0, 0), -1, 0);
        c.dueFault("n -1", x, x.teach(0, 1, 2, 0, -1), -2, 0);
        c.dueFault("lane 3", x, x.teach(0, 1, 3, 0, 0), -2, 0);
        c.dueFault("another lane", x, x.teach(0, 1, 2, 9, 0), Checks.CAST, 2);
        c.dueFault("man 1 behind it", x, x.teach(1, 1, 2, 9, 0), -1, 0);
        c.dueFault("nothing", x, x.teach(0, 0, 2, 9, 0), Checks.NULL, 1);
        c.dueFault("2 n beyond", x, x.teach(0, 1, 1, 0, 3), Checks.INDEX, 3);
        c.dueFault("a parish", x, x.teach(0, 1, 1, 0, 2), -1, 0);
        c.dueFault("a question", x, x.teach(0, 1, 1, 2, 1), -2, 0);
    }

    private static void worst() {
        // parishes 1 and 4 are never struck
        ThunderAsks x = Checks.settled("d216,m163,m463");
        int[] from0 = {0, 1, 1, 2, 3, 3, 4, 4, 4, 4, 4, 4, 4};
        int[] from2 = {0, 1, 2, 2, 3, 3, 3, 3, 4, 4, 4, 4, 4};
        int[] from4 = {0, 0, 1, 2, 2, 3, 3, 4, 4, 4, 4, 4, 4};
        for (int n = 0; n <= 12; n++) {
            c.due("worst(0, " + n + ")", x.worst(0, n), from0[n]);
            c.due("worst(2, " + n + ")", x.worst(2, n), from2[n]);
            c.due("worst(4, " + n + ")", x.worst(4, n), from4[n]);
        }
        c.due("worst(6, 99)", x.worst(6, 99), -1);
        c.due("worst(-1, 0)", x.worst(-1, 0), -1);
        c.due("worst(0, -1)", x.worst(0, -1), -2);
        c.due("worst(0, 13)", x.worst(0, 13), -2);
    }

    private static void fair() {
        ThunderAsks x = Checks.settled("d634,m015,m101,m263");
        Checks.write(x, 1, 1, 0, 1, 2, 3);
        long[][] due = {{1, 1}, {2, 3}, {1, 9}, {1, 9}, {0, 1}};
        for (int n = 0; n < 5; n++) {
            c.due("fair upper " + n, x.fair(1, 1, 0, n, 0), due[n][0]);
            c.due("fair lower " + n, x.fair(1, 1, 0, n, 1), due[n][1]);
        }
        Checks.write(x, 2, 0, new int[20]);
        c.due("2/3 twenty times, upper", x.fair(2, 0, 0, 20, 0), 1048576L);
        c.due("2/3 twenty times, lower", x.fair(2, 0, 0, 20, 1), 3486784401L);
        for (int i = 0; i < 20; i++) {
            x.put(2, i, 1);
        }
        c.due("1/6 twenty times, upper", x.fair(2, 0, 0, 20, 0), 1);
        c.due("1/6 twenty times, lower", x.fair(2, 0, 0, 20, 1), 3656158440062976L);
    }

    private static void fairRefusals() {
        long lost = Checks.LOST;
        ThunderAsks x = new ThunderAsks();
        Checks.write(x, 1, 1, 0, 4);
        c.dueFault("sheet 4", x, x.fair(4, 1, 0, 1, 0), lost, 0);
        c.dueFault("lane 3", x, x.fair(1, 3, 0, 1, 0), lost, 0);
        c.dueFault("n -1", x, x.fair(1, 2, 0, -1, 0), lost, 0);
        c.dueFault("n 21", x, x.fair(1, 2, 0, 21, 0), lost, 0);
        c.dueFault("which 2", x, x.fair(1, 2, 0, 1, 2), lost, 0);
        c.dueFault("which -1", x, x.fair(1, 2, 0, 1, -1), lost, 0);
        c.dueFault("another lane", x, x.fair(1, 2, 9, 1, 0), lost, 2);
        c.dueFault("nothing", x, x.fair(2, 2, 9, 1, 0), lost, 1);
        c.dueFault("refused behind a fault", x, x.fair(4, 1, 0, 1, 0), lost, 0);
        c.dueFault("beyond", x, x.fair(1, 1, 1, 2, 0), lost, 3);
        c.dueFault("i 3, none taken", x, x.fair(1, 1, 3, 0, 0), lost, 3);
        c.dueFault("no county", x, x.fair(1, 1, 0, 1, 0), lost, 0);
        x = Checks.settled("d634,m015");
        Checks.write(x, 1, 1, 0, 4, -1);
        c.dueFault("parish 4", x, x.fair(1, 1, 0, 2, 0), lost, 0);
        c.dueFault("parish -1", x, x.fair(1, 1, 2, 1, 0), lost, 0);
        c.dueFault("another lane, with a county", x, x.fair(1, 2, 0, 1, 0), lost, 2);
    }

    private static void worth() {
        ThunderAsks x = Checks.settled("d074,m001,m003,s007,m263");
        c.due("beside one who harms", x.worth(0), 100);
        c.due("the one who harms", x.worth(2), 98);
        c.due("alone", x.worth(3), 106);
        x.stand(2, 3);
        c.due("beside one who knows as much", x.worth(0), 100);
        c.due("who knows more", x.worth(1), 101);
        c.due("who answers wrong alone", x.worth(2), 100);
        c.due("worth(4)", x.worth(4), -1);
        c.due("worth(-1)", x.worth(-1), -1);
    }
}
