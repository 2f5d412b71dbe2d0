/** Promises 1 to 6. */
public final class CountyTest {
    private static final Checks c = new Checks();

    public static void main(String[] args) {
        newObject();
        texts();
        textsElsewhere();
        countyRefusals();
        takenMakesAnew();
        ofMan();
        truth();
        stand();
        learn();
        c.end("CountyTest");
    }

    private static void newObject() {
        ThunderAsks x = new ThunderAsks();
        for (int what = 0; what < 4; what++) {
            c.due("new, many(" + what + ")", x.many(what), 0);
        }
        for (int k = 0; k < 4; k++) {
            c.due("new, lose(" + k + ")", x.lose(k), 0);
        }
        c.due("new, trace()", x.trace(), 0);
        c.due("new, fault()", x.fault(), 0);
        c.due("new, ofMan(0, 0)", x.ofMan(0, 0), -1);
        c.due("new, dangers(0)", x.dangers(0), -1);
    }

    private static void text(String text, int want) {
        c.due("county by " + text, Checks.county(new ThunderAsks(), text), want);
    }

    private static void texts() {
        text("d002,m000", 1);
        text("d636,m563", 1);
        text("d214,m021,b300,s263,m109", 4);
        text("", -100);
        text("D", -100);
        text("x214,m021", -100);
        text("d", -101);
        text("d7", -101);
        text("d714,m021", -101);
        text("d/", -101);
        text("d:", -101);
        text("d6", -102);
        text("d64", -102);
        text("d639", -103);
        text("d5:", -102);
        text("d594,m021", 1);
        text("d21", -103);
        text("d211", -103);
        text("d217", -103);
        text("d214", -104);
        text("d214m", -104);
        text("d214,", -105);
        text("d214,d", -105);
        text("d214,m", -106);
        text("d214,m4", -106);
        text("d212,m2", -106);
        text("d214,m/", -106);
        text("d214,m3", -107);
        text("d214,m37", -107);
        text("d214,m36", -108);
        text("d214,m364", -108);
        text("d214,m363", 1);
        text("d214,m363m", -109);
        text("d214,m363,", -110);
        text("d214,m363,s", -111);
        text("d214,m363,s064", -113);
        text("d214,m000,m000,m000,m000,", -124);
        text("d214,m000,m000,m000,m000x", -124);
        text("d214,m000,m000,m000,m000,m000", -124);
    }

    private static void textsElsewhere() {
        ThunderAsks x = new ThunderAsks();
        Checks.write(x, 3, 2, Checks.codes("12d214,m02199"));
        c.due("county(3, 2, 2, 9)", x.county(3, 2, 2, 9), 1);
        c.due("county(3, 2, 2, 10)", x.county(3, 2, 2, 10), -109);
        c.due("county(3, 2, 0, 9)", x.county(3, 2, 0, 9), -100);
        // 356 is the code of d and 256: ints are not cut
        x.put(3, 2, 356);
        c.due("county by 356", x.county(3, 2, 2, 9), -100);
        Checks.write(x, 1, 1, Checks.codes("d214,b021"));
        c.due("county(1, 1, 0, 9)", x.county(1, 1, 0, 9), 1);
        c.due("ofMan(0, 0)", x.ofMan(0, 0), 1);
        // bytes are cut: 356 becomes 100
        Checks.write(x, 2, 0, Checks.codes("x214,s021"));
        x.put(2, 0, 356);
        c.due("county by 356 in bytes", x.county(2, 0, 0, 9), 1);
    }

    private static void countyRefusals() {
        ThunderAsks x = new ThunderAsks();
        Checks.write(x, 0, 0, Checks.codes("d214,m021"));
        c.dueFault("county(-1, 5, ..)", x, x.county(-1, 5, 0, 9), -1, 0);
        c.dueFault("county(4, 0, ..)", x, x.county(4, 0, 0, 9), -1, 0);
        c.dueFault("county(0, 3, ..)", x, x.county(0, 3, 0, 9), -2, 0);
        c.dueFault("county(0, -1, ..)", x, x.county(0, -1, 0, 9), -2, 0);
        c.dueFault("county(0, 1, -1, -1)", x, x.county(0, 1, -1, -1), Checks.CAST, 2);
        c.dueFault("county(1, 1, -1, -1)", x, x.county(1, 1, -1, -1), Checks.NULL, 1);
        c.dueFault("county(0, 0, -1, -1)", x, x.county(0, 0, -1, -1), Checks.SIZE, 4);
        c.dueFault("county(0, 0, -1, 0)", x, x.county(0, 0, -1, 0), Checks.INDEX, 3);
        c.dueFault("county(0, 0, 10, 0)", x, x.county(0, 0, 10, 0), Checks.INDEX, 3);
        c.dueFault("county(0, 0, 9, 0)", x, x.county(0, 0, 9, 0), -100, 0);
        c.dueFault("county(0, 0, 0, 10)", x, x.county(0, 0, 0, 10), Checks.INDEX, 3);
        c.dueFault("county(0, 0, 1, max)", x, x.county(0, 0, 1, Integer.MAX_VALUE), Checks.INDEX, 3);
        c.dueFault("county(0, 0, max, 1)", x, x.county(0, 0, Integer.MAX_VALUE, 1), Checks.INDEX, 3);
        c.due("no county yet", x.many(1), 0);
        c.dueFault("county(0, 0, 0, 9)", x, x.county(0, 0, 0, 9), 1, 0);
    }

    private static void takenMakesAnew() {
        ThunderAsks x = Checks.settled("d215,m043,b121");
        x.reading(0, 0, true);
        x.tell(1);
        int trace = x.trace();
        c.due("a text with a fault", Checks.county(x, "d332,m"), -106);
        c.due("many(0) as it was", x.many(0), 2);
        c.due("many(1) as it was", x.many(1), 5);
        c.due("many(2) as it was", x.many(2), 21);
        c.due("many(3) as it was", x.many(3), 1);
        c.due("another text", Checks.county(x, "d332,s163"), 1);
        c.due("many(0) anew", x.many(0), 1);
        c.due("many(1) anew", x.many(1), 2);
        c.due("many(2) anew", x.many(2), 33);
        c.due("many(3) anew", x.many(3), 0);
        c.due("ofMan(1, 0) anew", x.ofMan(1, 0), -1);
        c.due("dangers(2) anew", x.dangers(2), -1);
        c.due("trace() goes on", x.trace(), trace);
        c.due("the sheet stays", x.cell(0, 0, 0), 'd');
    }

    private static void ofMan() {
        ThunderAsks x = Checks.settled("d215,m043,b121,s409");
        int[][] men = {{0, 0, 43}, {1, 1, 21}, {2, 4, 9}};
        for (int m = 0; m < 3; m++) {
            for (int what = 0; what < 3; what++) {
                c.due("ofMan(" + m + ", " + what + ")", x.ofMan(m, what), men[m][what]);
            }
        }
        c.due("ofMan(3, 0)", x.ofMan(3, 0), -1);
        c.due("ofMan(-1, 9)", x.ofMan(-1, 9), -1);
        c.due("ofMan(0, -1)", x.ofMan(0, -1), -2);
        c.due("ofMan(0, 3)", x.ofMan(0, 3), -2);
    }

    private static void truth() {
        ThunderAsks x = new ThunderAsks();
        c.due("truth(64), no county", x.truth(64), -2);
        c.due("truth(63), no county", x.truth(63), -3);
        x = Checks.settled("d215,m043");
        c.due("truth(-1)", x.truth(-1), -2);
        c.due("truth(64)", x.truth(64), -2);
        c.due("truth(63)", x.truth(63), 21);
        c.due("truth(0)", x.truth(0), 63);
        c.due("many(2)", x.many(2), 0);
        c.due("answer(0, 0)", x.answer(0, 0), 0);
    }

    private static void stand() {
        ThunderAsks x = Checks.settled("d215,m043");
        c.due("stand(1, 0)", x.stand(1, 0), -1);
        c.due("stand(-1, 0)", x.stand(-1, 0), -1);
        c.due("stand(0, 5)", x.stand(0, 5), -1);
        c.due("stand(0, -1)", x.stand(0, -1), -1);
        c.due("stand(0, 4)", x.stand(0, 4), 0);
        c.due("stand(0, 4) again", x.stand(0, 4), 4);
        c.due("dangers(0)", x.dangers(0), 63);
        c.due("dangers(4)", x.dangers(4), 20);
    }

    private static void learn() {
        ThunderAsks x = Checks.settled("d215,m043");
        c.due("learn(1, 64)", x.learn(1, 64), -1);
        c.due("learn(0, 64)", x.learn(0, 64), -2);
        c.due("learn(0, -1)", x.learn(0, -1), -2);
        c.due("learn(0, 63)", x.learn(0, 63), 43);
        c.due("dangers(0)", x.dangers(0), 0);
        c.due("learn(0, 0)", x.learn(0, 0), 63);
        c.due("dangers(0) again", x.dangers(0), 63);
    }
}
