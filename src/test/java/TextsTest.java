/** Promise 2: each code at each place of a text, in each lane; the ends of a row; what is made anew. */
public final class TextsTest {
    private static final String DIGITS = "0123456789", TENS = "0123456", AFTER_SIX = "0123";
    private static final int[] WHOLE = {9, 14, 19, 24};

    private static final Checks c = new Checks();

    public static void main(String[] args) {
        eachCode("d216,m043,b512,s309,m563", "012345", DIGITS, DIGITS, DIGITS, DIGITS, AFTER_SIX);
        eachCode("d635,b460,s063,m161,b262", "01234", AFTER_SIX, AFTER_SIX, AFTER_SIX, AFTER_SIX, AFTER_SIX);
        eachCode("d004,s300,s000,b100,m259", "0123", DIGITS, DIGITS, DIGITS, DIGITS, DIGITS);
        eachCode("d593,m209,s150,m063,b219", "012", DIGITS, DIGITS, DIGITS, AFTER_SIX, DIGITS);
        eachCode("d602,s160,b060,m110,m001", "01", AFTER_SIX, AFTER_SIX, AFTER_SIX, DIGITS, DIGITS);
        widerCodes();
        firstOfTwoFaults();
        farEnd();
        anewBySameText();
        fewestAndMost();
        c.end("TextsTest");
    }

    /** The codes with which a text goes on; the last of two digits are told for the truth and each list. */
    private static String[] allowed(String parishes, String... lastDigits) {
        String[] allowed = new String[25];
        allowed[0] = "d";
        allowed[1] = TENS;
        allowed[2] = lastDigits[0];
        allowed[3] = "23456";
        for (int m = 0; m < 4; m++) {
            int at = 4 + 5 * m;
            allowed[at] = ",";
            allowed[at + 1] = "mbs";
            allowed[at + 2] = parishes;
            allowed[at + 3] = TENS;
            allowed[at + 4] = lastDigits[m + 1];
        }
        allowed[24] = "";
        return allowed;
    }

    /** Each byte behind each beginning of a text of four men. */
    private static void eachCode(String text, String parishes, String... lastDigits) {
        String[] allowed = allowed(parishes, lastDigits);
        for (int place = 0; place <= 24; place++) {
            for (int code = -128; code < 128; code++) {
                boolean goesOn = code >= 0 && allowed[place].indexOf(code) >= 0;
                int[] cells = codesThen(text, place, code);
                c.due(text + ", place " + place + " code " + code, county(0, cells), goesOn ? taken(place + 1) : -100 - place);
            }
        }
    }

    /** What a text that has no fault answers by how many codes it has. */
    private static int taken(int codes) {
        for (int m = 0; m < 4; m++) {
            if (codes == WHOLE[m]) {
                return m + 1;
            }
        }
        return -100 - codes;
    }

    private static int[] codesThen(String text, int place, int code) {
        int[] cells = Checks.codes(text.substring(0, place) + "?");
        cells[place] = code;
        return cells;
    }

    private static int county(int lane, int[] cells) {
        ThunderAsks x = new ThunderAsks();
        Checks.write(x, 0, lane, cells);
        return x.county(0, lane, 0, cells.length);
    }

    /** A code is not one that is like it but for bits that the lane does not cut. */
    private static void widerCodes() {
        String text = "d216,m043,b512,s309,m563";
        for (int place = 0; place < 24; place++) {
            int code = text.charAt(place);
            int due = taken(place + 1);
            for (int more : new int[] {256, -256, 1024}) {
                int[] cells = codesThen(text, place, code + more);
                c.due("bytes are cut, place " + place, county(0, cells), due);
                c.due("shorts are wider, place " + place, county(1, cells), -100 - place);
                c.due("ints are wider, place " + place, county(2, cells), -100 - place);
            }
            for (int more : new int[] {65536, -65536, Integer.MIN_VALUE}) {
                int[] cells = codesThen(text, place, code + more);
                c.due("shorts are cut, place " + place, county(1, cells), due);
                c.due("ints are wider still, place " + place, county(2, cells), -100 - place);
            }
        }
    }

    private static void firstOfTwoFaults() {
        c.due("two faults", county(0, Checks.codes("d714,x")), -101);
        c.due("a fault, and it ends too soon", county(0, Checks.codes("d21x")), -103);
        c.due("a parish that there is not, and a list that is none", county(0, Checks.codes("d212,m299")), -106);
        c.due("a fault ahead of the fifth man", county(0, Checks.codes("d212,m000,m000,m000,m064,m000")), -123);
    }

    private static void farEnd() {
        int[] cells = new int[60];
        int[] text = Checks.codes("d216,m043,b512,s309,m563");
        System.arraycopy(text, 0, cells, 36, 24);
        for (int lane = 0; lane < 3; lane++) {
            ThunderAsks x = new ThunderAsks();
            Checks.write(x, 3, lane, cells);
            c.dueFault("a cell ahead of it", x, x.county(3, lane, 35, 24), -100, 0);
            c.dueFault("a cell behind its first", x, x.county(3, lane, 37, 23), -100, 0);
            c.dueFault("one cell too many", x, x.county(3, lane, 36, 25), Checks.INDEX, 3);
            c.dueFault("a cell less", x, x.county(3, lane, 36, 23), -123, 0);
            c.dueFault("all sixty", x, x.county(3, lane, 0, 60), -100, 0);
            c.due("no county yet", x.many(0) + x.many(1) + x.many(2), 0);
            c.dueFault("the last 24 cells", x, x.county(3, lane, 36, 24), 4, 0);
            c.due("the last man's list", x.ofMan(3, 2), 63);
            x.copy(3, 36, 3, 0, 24);
            c.dueFault("sixty cells, a text first", x, x.county(3, lane, 0, 60), -124, 0);
        }
    }

    /** All that other calls have changed is as the text tells it again. */
    private static void anewBySameText() {
        ThunderAsks x = new ThunderAsks();
        String text = "d216,m043,b512";
        Checks.county(x, text);
        x.truth(63);
        x.stand(0, 5);
        x.learn(1, 63);
        for (int r = 0; r < 8; r++) {
            x.reading(0, 0, r % 2 == 0);
        }
        c.due("no truth is left", x.truths(0), 0);
        c.due("the text again", x.county(0, 0, 0, text.length()), 2);
        c.due("truth anew", x.many(2), 21);
        c.due("parish anew", x.ofMan(0, 1), 0);
        c.due("list anew", x.ofMan(1, 2), 12);
        c.due("no readings", x.many(3), 0);
        c.due("back(1) of none", x.back(1), -2);
        c.due("all truths", x.truths(0), 64);
        c.due("the first reading's number", x.reading(0, 0, true), 0);
    }

    private static void fewestAndMost() {
        for (int parishes = 2; parishes <= 6; parishes++) {
            for (int men = 1; men <= 4; men++) {
                StringBuilder text = new StringBuilder("d00").append(parishes);
                for (int m = 0; m < men; m++) {
                    text.append(",m").append(parishes - 1).append("00");
                }
                ThunderAsks x = new ThunderAsks();
                c.due("county by " + text, Checks.county(x, text.toString()), men);
                c.due("men", x.many(0), men);
                c.due("parishes", x.many(1), parishes);
                c.due("the last parish", x.strikes(parishes - 1, 0), 1);
                c.due("no parish behind it", x.strikes(parishes, 0), -1);
                c.due("the last man", x.ofMan(men - 1, 1), parishes - 1);
                c.due("no man behind him", x.ofMan(men, 1), -1);
            }
        }
        for (int set = 0; set < 64; set++) {
            String told = (set < 10 ? "0" : "") + set;
            ThunderAsks x = Checks.settled("d" + told + "2,m0" + told);
            c.due("truth " + told, x.many(2), set);
            c.due("list " + told, x.ofMan(0, 2), set);
        }
    }
}
