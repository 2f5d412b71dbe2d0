import java.util.Arrays;

/**
 * Thunder with its question first: a county of parishes in a row, men of kinds who stand in them,
 * and what is struck where no true answer comes.
 *
 * <p>Sets are told as bits. All rows are made with the object and used again, so that no call makes
 * objects of its own.
 */
public final class ThunderAsks {
    public static final int UNKNOWN = -1, OUTSIDE = -2, STATE = -3, FULL = -4, NONE = -9;
    public static final long LOST = Long.MIN_VALUE;

    private static final int NO_FAULT = 0, NULL = 1, CAST = 2, INDEX = 3, SIZE = 4;
    private static final int MAN = 0, BOLD = 1, SPITEFUL = 2, KINDS = 3;
    private static final int BYTES = 0, SHORTS = 1, LANES = 3;
    private static final int SHEETS = 4, MOST_CELLS = 60;
    private static final int QUESTIONS = 6, SETS = 64, ALL_QUESTIONS = 63;
    private static final int MOST_PARISHES = 6, MOST_MEN = 4, MEN_SETS = 16;
    private static final int MOST_PAIRS = 20, MOST_READINGS = 8, MOST_WALK = 12;
    private static final int TAKEN = 0;
    private static final int NO_TEXT_FAULT = -1;
    private static final int TEXT_HEAD = 4, TEXT_MAN = 5, TEXT_PARISHES = 3;

    private final Sheet[] sheets = new Sheet[SHEETS];
    private final County land = new County();
    private final Readings readings = new Readings();
    private final Storm storm = new Storm();
    private final Placing placing = new Placing();
    private int trace;
    private int fault;

    public ThunderAsks() {
        for (int k = 0; k < SHEETS; k++) {
            sheets[k] = new Sheet();
        }
    }

    // ---- 1 the county

    public int county(int sheet, int lane, int i, int n) {
        fault = NO_FAULT;
        Sheet row = sheetOf(sheet);
        if (row == null) {
            return UNKNOWN;
        }
        if (!isLane(lane)) {
            return OUTSIDE;
        }
        int met = row.faultOf(lane, i, n);
        if (met != NO_FAULT) {
            return faulty(met);
        }
        int wrong = CountyText.firstFault(row, i, n);
        if (wrong != NO_TEXT_FAULT) {
            return -100 - wrong;
        }
        CountyText.settle(row, i, n, land);
        readings.count = 0;
        return land.manCount;
    }

    public int ofMan(int m, int what) {
        Man man = land.manOf(m);
        if (man == null) {
            return UNKNOWN;
        }
        switch (what) {
            case 0:
                return man.kind;
            case 1:
                return man.parish;
            case 2:
                return man.list;
            default:
                return OUTSIDE;
        }
    }

    public int truth(int set) {
        if (!isSet(set)) {
            return OUTSIDE;
        }
        if (!land.isThere()) {
            return STATE;
        }
        int before = land.truth;
        land.truth = set;
        return before;
    }

    public int stand(int m, int p) {
        Man man = land.manOf(m);
        if (man == null || !land.hasParish(p)) {
            return UNKNOWN;
        }
        int before = man.parish;
        man.parish = p;
        return before;
    }

    public int learn(int m, int set) {
        Man man = land.manOf(m);
        if (man == null) {
            return UNKNOWN;
        }
        if (!isSet(set)) {
            return OUTSIDE;
        }
        int before = man.list;
        man.list = set;
        return before;
    }

    // ---- 2 questions

    public int answer(int m, int q) {
        Man man = land.manOf(m);
        if (man == null) {
            return UNKNOWN;
        }
        if (!isQuestion(q)) {
            return OUTSIDE;
        }
        int right = holds(land.truth, q) ? 1 : 0;
        if (holds(man.rightBy(land.truth), q)) {
            return right;
        }
        return holds(man.wrongBy(land.truth), q) ? 1 - right : NONE;
    }

    public int strikes(int p, int q) {
        if (!land.hasParish(p)) {
            return UNKNOWN;
        }
        if (!isQuestion(q)) {
            return OUTSIDE;
        }
        return land.isStruck(p, q) ? 1 : 0;
    }

    public int dangers(int p) {
        return land.hasParish(p) ? land.dangersOf(p) : UNKNOWN;
    }

    public int storm(int sheet, int lane, int i, int n, int what) {
        int heard = hearStorm(sheet, lane, i, n, what >= 0 && what <= 2);
        if (heard != TAKEN) {
            return heard;
        }
        if (what == 0) {
            return storm.countIn(land);
        }
        return what == 1 ? storm.firstIn(land) : storm.struckIn(land);
    }

    // ---- 3 men, storms

    public int place(int k, int sheet, int lane, int i, int n) {
        fault = NO_FAULT;
        if (k < -1) {
            return UNKNOWN;
        }
        int heard = hearStorm(sheet, lane, i, n, true);
        if (heard != TAKEN) {
            return heard;
        }
        if (k >= land.manCount) {
            return NONE;
        }
        placing.find(land, storm);
        return k < 0 ? placing.fewest : placing.parishOf(k);
    }

    public int teach(int m, int sheet, int lane, int i, int n) {
        fault = NO_FAULT;
        Man man = land.manOf(m);
        if (man == null) {
            return UNKNOWN;
        }
        int heard = hearStorm(sheet, lane, i, n, true);
        return heard != TAKEN ? heard : fewestQuestions(lessons(man));
    }

    public int worst(int p, int n) {
        if (!land.hasParish(p)) {
            return UNKNOWN;
        }
        if (n < 0 || n > MOST_WALK) {
            return OUTSIDE;
        }
        int most = 0;
        for (int first = 0; first <= p; first++) {
            for (int last = p; last < land.parishes; last++) {
                if (stepsOver(first, p, last) < n) {
                    most = Math.max(most, land.dangerousFrom(first, last));
                }
            }
        }
        return most;
    }

    public long fair(int sheet, int lane, int i, int n, int which) {
        fault = NO_FAULT;
        Sheet row = sheetOf(sheet);
        if (row == null || !isLane(lane) || n < 0 || n > MOST_PAIRS || !isWhich(which)) {
            return LOST;
        }
        fault = row.faultOf(lane, i, n);
        if (fault != NO_FAULT || !land.isThere()) {
            return LOST;
        }
        long upper = 1;
        long lower = 1;
        for (int t = 0; t < n; t++) {
            int p = row.valueAt(i + t);
            if (!land.hasParish(p)) {
                return LOST;
            }
            upper *= QUESTIONS - Integer.bitCount(land.dangersOf(p));
            lower *= QUESTIONS;
        }
        return inLeastTerms(upper, lower, which);
    }

    public int worth(int m) {
        if (land.manOf(m) == null) {
            return UNKNOWN;
        }
        return 100 + land.dangersWithout(1 << m) - land.dangersWithout(0);
    }

    // ---- 4 what was struck

    public int reading(int p, int q, boolean struck) {
        if (!land.hasParish(p)) {
            return UNKNOWN;
        }
        if (!isQuestion(q)) {
            return OUTSIDE;
        }
        return readings.note(p, q, struck) ? readings.count - 1 : FULL;
    }

    public int back(int k) {
        if (k < 0 || k > readings.count) {
            return OUTSIDE;
        }
        readings.count -= k;
        return readings.count;
    }

    public int truths(int what) {
        boolean ofQuestion = what >= 10 && isQuestion(what - 10);
        if (what != 0 && what != 1 && !ofQuestion) {
            return OUTSIDE;
        }
        if (!land.isThere()) {
            return STATE;
        }
        long likely = readings.likelyTruths(land);
        if (what == 0) {
            return Long.bitCount(likely);
        }
        return ofQuestion ? countHolding(likely, what - 10) : leastOf(likely);
    }

    public int stood(int m) {
        Man man = land.manOf(m);
        return man == null ? UNKNOWN : readings.likelyParishes(land, man);
    }

    public int kinds(int m) {
        Man man = land.manOf(m);
        return man == null ? UNKNOWN : readings.likelyKinds(land, man);
    }

    public int knew(int m, int what) {
        Man man = land.manOf(m);
        if (man == null) {
            return UNKNOWN;
        }
        if (what != 0 && what != 1) {
            return OUTSIDE;
        }
        long likely = readings.likelyLists(land, man);
        return what == 0 ? Long.bitCount(likely) : fewestQuestions(likely);
    }

    public long odds(int p, int q, int which) {
        if (!land.hasParish(p) || !isQuestion(q) || !isWhich(which)) {
            return LOST;
        }
        int all = 1 << land.manCount;
        int there = land.menIn(p);
        int held = 0;
        for (int awake = 0; awake < all; awake++) {
            if (!holds(land.dangersBy(there & awake), q)) {
                held++;
            }
        }
        return inLeastTerms(held, all, which);
    }

    // ---- 5 sheets, parts

    public int sheet(int k, int lane, int n) {
        fault = NO_FAULT;
        Sheet row = sheetOf(k);
        if (row == null) {
            return UNKNOWN;
        }
        if (!isLane(lane) || n > MOST_CELLS) {
            return OUTSIDE;
        }
        if (n < 0) {
            return faulty(SIZE);
        }
        row.renew(lane, n);
        return 1;
    }

    public int lose(int k) {
        Sheet row = sheetOf(k);
        if (row == null) {
            return UNKNOWN;
        }
        boolean had = row.there;
        row.there = false;
        return had ? 1 : 0;
    }

    public int put(int k, int i, int v) {
        fault = NO_FAULT;
        Sheet row = sheetOf(k);
        if (row == null) {
            return UNKNOWN;
        }
        int met = row.faultOf(row.lane, i, 1);
        if (met != NO_FAULT) {
            return faulty(met);
        }
        row.write(i, v);
        return 1;
    }

    public long cell(int k, int i, int lane) {
        fault = NO_FAULT;
        Sheet row = sheetOf(k);
        if (row == null || !isLane(lane)) {
            return LOST;
        }
        fault = row.faultOf(lane, i, 1);
        return fault == NO_FAULT ? row.valueAt(i) : LOST;
    }

    public int copy(int k, int i, int other, int j, int n) {
        fault = NO_FAULT;
        Sheet from = sheetOf(k);
        Sheet to = sheetOf(other);
        if (from == null || to == null) {
            return UNKNOWN;
        }
        if (!from.there || !to.there) {
            return faulty(NULL);
        }
        if (from.lane != to.lane) {
            return faulty(CAST);
        }
        if (!from.hasCells(i, n) || !to.hasCells(j, n)) {
            return faulty(INDEX);
        }
        System.arraycopy(from.cells, i, to.cells, j, n);
        return n;
    }

    public int tell(int m) {
        Man man = land.manOf(m);
        if (man == null) {
            return UNKNOWN;
        }
        switch (man.kind) {
            case SPITEFUL:
                return spitefulTells(man);
            case BOLD:
                return boldTells(man);
            default:
                return manTells(man);
        }
    }

    public int hail(int m) {
        Man man = land.manOf(m);
        if (man == null) {
            return UNKNOWN;
        }
        if (man.kind == SPITEFUL) {
            begin(5);
            return 60;
        }
        begin(4);
        return m;
    }

    public int as(int m, int kind) {
        fault = NO_FAULT;
        Man man = land.manOf(m);
        if (man == null) {
            return UNKNOWN;
        }
        if (kind < 0 || kind >= KINDS) {
            return OUTSIDE;
        }
        // each kind is of all kinds with a lower number, too
        return kind <= man.kind ? 1 : faulty(CAST);
    }

    public int trace() {
        return trace;
    }

    public int fault() {
        return fault;
    }

    public int many(int what) {
        switch (what) {
            case 0:
                return land.manCount;
            case 1:
                return land.parishes;
            case 2:
                return land.truth;
            case 3:
                return readings.count;
            default:
                return OUTSIDE;
        }
    }

    // ---- parts of the calls

    private Sheet sheetOf(int k) {
        return k < 0 || k >= SHEETS ? null : sheets[k];
    }

    private int faulty(int met) {
        fault = met;
        return -10 - met;
    }

    /** Takes up the storm that a sheet tells: TAKEN, or what the call is to answer instead. */
    private int hearStorm(int sheet, int lane, int i, int n, boolean whatIsKnown) {
        fault = NO_FAULT;
        Sheet row = sheetOf(sheet);
        if (row == null) {
            return UNKNOWN;
        }
        if (!isLane(lane) || n < 0 || n > MOST_PAIRS || !whatIsKnown) {
            return OUTSIDE;
        }
        int met = row.faultOf(lane, i, 2 * n);
        if (met != NO_FAULT) {
            return faulty(met);
        }
        return land.isThere() ? hearPairs(row, i, n) : STATE;
    }

    private int hearPairs(Sheet row, int i, int n) {
        storm.size = 0;
        for (int t = 0; t < n; t++) {
            int p = row.valueAt(i + 2 * t);
            int q = row.valueAt(i + 2 * t + 1);
            if (!land.hasParish(p)) {
                return UNKNOWN;
            }
            if (!isQuestion(q)) {
                return OUTSIDE;
            }
            storm.add(p, q);
        }
        return TAKEN;
    }

    /** Sets of questions that are new to a man (bit s for set s) by which the storm never strikes. */
    private long lessons(Man man) {
        int before = man.list;
        long good = 0;
        for (int more = 0; more < SETS; more++) {
            man.list = before | more;
            if ((before & more) == 0 && storm.firstIn(land) == NONE) {
                good |= 1L << more;
            }
        }
        man.list = before;
        return good;
    }

    /** Steps of the shortest walk from p that comes to both ends: the nearer end comes first. */
    private static int stepsOver(int first, int p, int last) {
        return last - first + Math.min(p - first, last - p);
    }

    private int manTells(Man man) {
        begin(1);
        return man.parish;
    }

    private int boldTells(Man man) {
        begin(2);
        return manTells(man) + 100;
    }

    private int spitefulTells(Man man) {
        begin(3);
        int asBold = boldTells(man);
        return asBold + manTells(man);
    }

    private void begin(int body) {
        trace = 31 * trace + body;
    }

    // ---- numbers and sets

    private static boolean isLane(int lane) {
        return lane >= 0 && lane < LANES;
    }

    private static boolean isSet(int set) {
        return set >= 0 && set < SETS;
    }

    private static boolean isQuestion(int q) {
        return q >= 0 && q < QUESTIONS;
    }

    private static boolean isWhich(int which) {
        return which == 0 || which == 1;
    }

    private static boolean holds(int set, int k) {
        return (set >> k & 1) != 0;
    }

    private static boolean holdsSet(long sets, int set) {
        return (sets >> set & 1) != 0;
    }

    private static int leastOf(long sets) {
        for (int set = 0; set < SETS; set++) {
            if (holdsSet(sets, set)) {
                return set;
            }
        }
        return NONE;
    }

    private static int countHolding(long sets, int q) {
        int count = 0;
        for (int set = 0; set < SETS; set++) {
            if (holdsSet(sets, set) && holds(set, q)) {
                count++;
            }
        }
        return count;
    }

    /** The set of the fewest questions, of several the least. */
    private static int fewestQuestions(long sets) {
        int best = NONE;
        int fewest = QUESTIONS + 1;
        for (int set = 0; set < SETS; set++) {
            if (holdsSet(sets, set) && Integer.bitCount(set) < fewest) {
                best = set;
                fewest = Integer.bitCount(set);
            }
        }
        return best;
    }

    private static long inLeastTerms(long upper, long lower, int which) {
        long divisor = commonDivisor(lower, upper);
        long told = which == 0 ? upper : lower;
        return divisor == 0 ? told : told / divisor;
    }

    private static long commonDivisor(long a, long b) {
        long high = a;
        long low = b;
        // Euclid's way needs less than a hundred steps for any two longs
        for (int t = 0; t < 100 && low != 0; t++) {
            long rest = high % low;
            high = low;
            low = rest;
        }
        return high;
    }

    // ---- classes inside

    /** A row of cells of a lane, or nothing; the cells are kept as ints that fit the lane. */
    private static final class Sheet {
        boolean there;
        int lane;
        int size;
        final int[] cells = new int[MOST_CELLS];

        void renew(int newLane, int newSize) {
            there = true;
            lane = newLane;
            size = Math.max(0, Math.min(newSize, MOST_CELLS));
            Arrays.fill(cells, 0);
        }

        boolean hasCells(int i, int n) {
            return n >= 0 && i >= 0 && i <= size && n <= size - i;
        }

        /** The fault that is come to first, if n cells from i on are taken as a row of a lane. */
        int faultOf(int wanted, int i, int n) {
            if (!there) {
                return NULL;
            }
            if (lane != wanted) {
                return CAST;
            }
            if (n < 0) {
                return SIZE;
            }
            return hasCells(i, n) ? NO_FAULT : INDEX;
        }

        int valueAt(int i) {
            return hasCells(i, 1) ? cells[i] : 0;
        }

        void write(int i, int v) {
            if (hasCells(i, 1)) {
                cells[i] = lane == BYTES ? (byte) v : lane == SHORTS ? (short) v : v;
            }
        }
    }

    private static final class Man {
        int kind;
        int parish;
        int list;

        /** The questions that he answers right, as a set. */
        int rightBy(int truth) {
            switch (kind) {
                case SPITEFUL:
                    return 0;
                case BOLD:
                    return list | truth;
                default:
                    return list;
            }
        }

        /** The questions that he answers wrong, as a set. */
        int wrongBy(int truth) {
            switch (kind) {
                case SPITEFUL:
                    return list;
                case BOLD:
                    return ALL_QUESTIONS & ~(list | truth);
                default:
                    return 0;
            }
        }
    }

    /** The truth, parishes and men; without a text it has no parishes. */
    private static final class County {
        int truth;
        int parishes;
        int manCount;
        final Man[] men = new Man[MOST_MEN];

        County() {
            for (int m = 0; m < MOST_MEN; m++) {
                men[m] = new Man();
            }
        }

        boolean isThere() {
            return parishes > 0;
        }

        boolean hasParish(int p) {
            return p >= 0 && p < parishes;
        }

        Man manOf(int m) {
            return m < 0 || m >= manCount || m >= MOST_MEN ? null : men[m];
        }

        int menIn(int p) {
            int there = 0;
            for (int m = 0; m < manCount && m < MOST_MEN; m++) {
                if (men[m].parish == p) {
                    there |= 1 << m;
                }
            }
            return there;
        }

        /** The questions by which a parish is struck, if just these men stand in it. */
        int dangersBy(int there) {
            int right = 0;
            int wrong = 0;
            for (int m = 0; m < manCount && m < MOST_MEN; m++) {
                if (holds(there, m)) {
                    right |= men[m].rightBy(truth);
                    wrong |= men[m].wrongBy(truth);
                }
            }
            return ALL_QUESTIONS & ~(right & ~wrong);
        }

        int dangersOf(int p) {
            return dangersBy(menIn(p));
        }

        boolean isStruck(int p, int q) {
            return holds(dangersOf(p), q);
        }

        /** How many dangers all parishes have together, some men left out. */
        int dangersWithout(int leftOut) {
            int count = 0;
            for (int p = 0; p < parishes; p++) {
                count += Integer.bitCount(dangersBy(menIn(p) & ~leftOut));
            }
            return count;
        }

        /** How many parishes of these have dangers. */
        int dangerousFrom(int first, int last) {
            int count = 0;
            for (int p = first; p <= last && p < parishes; p++) {
                if (dangersOf(p) != 0) {
                    count++;
                }
            }
            return count;
        }
    }

    /** Reads the text of a county: each place has its own codes, whatever men there are. */
    private static final class CountyText {
        /** The place of the first fault of the text of n cells from i on; or NO_TEXT_FAULT. */
        static int firstFault(Sheet row, int i, int n) {
            for (int place = 0; place < n; place++) {
                if (!goesOn(row, i, place)) {
                    return place;
                }
            }
            boolean whole = n >= TEXT_HEAD + TEXT_MAN && (n - TEXT_HEAD) % TEXT_MAN == 0;
            return whole ? NO_TEXT_FAULT : n;
        }

        /** Whether a text that has no fault ahead of a place goes on with the code there. */
        static boolean goesOn(Sheet row, int i, int place) {
            int code = row.valueAt(i + place);
            if (place >= TEXT_HEAD) {
                return place < TEXT_HEAD + MOST_MEN * TEXT_MAN && manGoesOn(row, i, place, code);
            }
            switch (place) {
                case 0:
                    return code == 'd';
                case 1:
                    return isFirstDigit(code);
                case 2:
                    return isSecondDigit(row.valueAt(i + 1), code);
                default:
                    return code >= '2' && code <= '6';
            }
        }

        static boolean manGoesOn(Sheet row, int i, int place, int code) {
            switch ((place - TEXT_HEAD) % TEXT_MAN) {
                case 0:
                    return code == ',';
                case 1:
                    return code == 'm' || code == 'b' || code == 's';
                case 2:
                    return code >= '0' && code < row.valueAt(i + TEXT_PARISHES);
                case 3:
                    return isFirstDigit(code);
                default:
                    return isSecondDigit(row.valueAt(i + place - 1), code);
            }
        }

        static boolean isFirstDigit(int code) {
            return code >= '0' && code <= '6';
        }

        static boolean isSecondDigit(int first, int code) {
            return code >= '0' && code <= (first == '6' ? '3' : '9');
        }

        /** Makes a county anew by a text that has no fault. */
        static void settle(Sheet row, int i, int n, County land) {
            land.truth = setAt(row, i + 1);
            land.parishes = row.valueAt(i + TEXT_PARISHES) - '0';
            land.manCount = Math.min((n - TEXT_HEAD) / TEXT_MAN, MOST_MEN);
            for (int m = 0; m < land.manCount; m++) {
                int letter = i + TEXT_HEAD + m * TEXT_MAN + 1;
                Man man = land.men[m];
                man.kind = kindBy(row.valueAt(letter));
                man.parish = row.valueAt(letter + 1) - '0';
                man.list = setAt(row, letter + 2);
            }
        }

        static int setAt(Sheet row, int at) {
            return (row.valueAt(at) - '0') * 10 + row.valueAt(at + 1) - '0';
        }

        static int kindBy(int letter) {
            return letter == 's' ? SPITEFUL : letter == 'b' ? BOLD : MAN;
        }
    }

    private static final class Storm {
        int size;
        final int[] parishes = new int[MOST_PAIRS];
        final int[] questions = new int[MOST_PAIRS];

        void add(int p, int q) {
            if (size >= 0 && size < MOST_PAIRS) {
                parishes[size] = p;
                questions[size] = q;
                size++;
            }
        }

        int countIn(County land) {
            int count = 0;
            for (int t = 0; t < size; t++) {
                if (land.isStruck(parishes[t], questions[t])) {
                    count++;
                }
            }
            return count;
        }

        int firstIn(County land) {
            for (int t = 0; t < size; t++) {
                if (land.isStruck(parishes[t], questions[t])) {
                    return t;
                }
            }
            return NONE;
        }

        /** The parishes that are struck, as a set. */
        int struckIn(County land) {
            int struck = 0;
            for (int t = 0; t < size; t++) {
                if (land.isStruck(parishes[t], questions[t])) {
                    struck |= 1 << parishes[t];
                }
            }
            return struck;
        }
    }

    /** Where men should stand; weighs sets of men for each parish once, then goes over all rows. */
    private static final class Placing {
        final int[] costs = new int[MOST_PARISHES * MEN_SETS];
        final int[] crowds = new int[MOST_PARISHES];
        final int[] tried = new int[MOST_MEN];
        final int[] best = new int[MOST_MEN];
        int parishes;
        int men;
        int fewest;

        void find(County land, Storm storm) {
            parishes = Math.min(land.parishes, MOST_PARISHES);
            men = Math.min(land.manCount, MOST_MEN);
            weigh(land, storm);
            Arrays.fill(crowds, 0);
            // one more than any row costs, so that the first row is taken
            fewest = storm.size + 1;
            // where nobody stands yet, each pair strikes
            goOn(this, 0, storm.size);
        }

        int parishOf(int m) {
            return m >= 0 && m < MOST_MEN ? best[m] : NONE;
        }

        /** How often the storm strikes in each parish, by the set of men who stand there. */
        void weigh(County land, Storm storm) {
            Arrays.fill(costs, 0);
            for (int crowd = 0; crowd < MEN_SETS; crowd++) {
                int dangers = land.dangersBy(crowd);
                for (int t = 0; t < storm.size; t++) {
                    int p = storm.parishes[t];
                    if (p >= 0 && p < MOST_PARISHES && holds(dangers, storm.questions[t])) {
                        costs[p * MEN_SETS + crowd]++;
                    }
                }
            }
        }

        /** Tries all parishes for man m and those behind him; the earliest rows come first. */
        private static void goOn(Placing at, int m, int cost) {
            if (m < 0 || m >= at.men || m >= MOST_MEN) {
                at.keepIfFewer(cost);
                return;
            }
            for (int p = 0; p < at.parishes; p++) {
                int before = at.crowds[p];
                int after = (before | 1 << m) & MEN_SETS - 1;
                int change = at.costs[p * MEN_SETS + after] - at.costs[p * MEN_SETS + before];
                at.tried[m] = p;
                at.crowds[p] = after;
                goOn(at, m + 1, cost + change);
                at.crowds[p] = before;
            }
        }

        void keepIfFewer(int cost) {
            if (cost < fewest) {
                fewest = cost;
                System.arraycopy(tried, 0, best, 0, MOST_MEN);
            }
        }
    }

    /** What was struck or held; and what may be so, one thing at a time, all else left as it is. */
    private static final class Readings {
        int count;
        final int[] parishes = new int[MOST_READINGS];
        final int[] questions = new int[MOST_READINGS];
        final boolean[] struck = new boolean[MOST_READINGS];

        boolean note(int p, int q, boolean wasStruck) {
            if (count < 0 || count >= MOST_READINGS) {
                return false;
            }
            parishes[count] = p;
            questions[count] = q;
            struck[count] = wasStruck;
            count++;
            return true;
        }

        boolean allSoIn(County land) {
            for (int r = 0; r < count; r++) {
                if (land.isStruck(parishes[r], questions[r]) != struck[r]) {
                    return false;
                }
            }
            return true;
        }

        /** Bit s for truth s. */
        long likelyTruths(County land) {
            int before = land.truth;
            long likely = 0;
            for (int set = 0; set < SETS; set++) {
                land.truth = set;
                if (allSoIn(land)) {
                    likely |= 1L << set;
                }
            }
            land.truth = before;
            return likely;
        }

        int likelyParishes(County land, Man man) {
            int before = man.parish;
            int likely = 0;
            for (int p = 0; p < land.parishes; p++) {
                man.parish = p;
                if (allSoIn(land)) {
                    likely |= 1 << p;
                }
            }
            man.parish = before;
            return likely;
        }

        int likelyKinds(County land, Man man) {
            int before = man.kind;
            int likely = 0;
            for (int kind = 0; kind < KINDS; kind++) {
                man.kind = kind;
                if (allSoIn(land)) {
                    likely |= 1 << kind;
                }
            }
            man.kind = before;
            return likely;
        }

        /** Bit s for list s. */
        long likelyLists(County land, Man man) {
            int before = man.list;
            long likely = 0;
            for (int set = 0; set < SETS; set++) {
                man.list = set;
                if (allSoIn(land)) {
                    likely |= 1L << set;
                }
            }
            man.list = before;
            return likely;
        }
    }
}
