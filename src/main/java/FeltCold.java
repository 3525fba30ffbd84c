import java.util.Arrays;

/**
 * One family's cold: how warm the rooms of a town are, told by who does his thing there and who does not.
 * The document says what each call answers; words in capitals are its terms.
 */
public final class FeltCold {
    public static final int BAD = -1, FULL = -2, FINDING = -3, STATE = -4, SPENT = -6, NONE = -9;

    private static final int NOTHING = 1, BEYOND = 2, UNLIKE = 3, NOUGHT = 4, SIZE = 5;
    private static final int ONE = 0, SNEEZER = 1, TWIN = 2, MARRIED = 3, FEVERISH = 4, OLD = 5;
    private static final int WALKING = 0, PASSING = 1, SERVING = 2, CATCHING = 3, LOVING = 4, HEATING = 5;

    private static final int ROWS = 6, ROW_SIZE = 40, TEXTS = 4, TEXT_SIZE = 60, KEPT = 3;
    private static final int MOST_ROOMS = 4, MOST_MEMBERS = 6, MOST_DEEDS = 40, MOST_STEPS = 18;
    private static final int MOST_DEGREE = 30, DEGREES = 31, ALL_DEGREES = 0x7fffffff;
    private static final int MOST_SHIFT = 5, COLD_HOURS = 2, SOUP_HOURS = 3, DRIFT_HOURS = 6;
    private static final int MOST_SPREAD = 12, MOST_SOUPS = 8, TWELVE = 12, MOST_LOTS = 20;
    private static final long LOT_FACTOR = 48271L, LOT_MODULUS = 2147483647L;

    private static final int BLANK = 32, NOUGHT_SIGN = 48, ROOM_SIGN = 114;
    /** The letters of the KINDS, by their numbers. */
    private static final int[] KIND_SIGNS = {111, 115, 116, 109, 102, 97};

    private final Rows rows = new Rows();
    private final Texts texts = new Texts();
    private final Reader reader = new Reader();
    private final Town town = new Town();
    private final Deeds deeds = new Deeds();
    private final Sender sender = new Sender();
    private final Teller teller = new Teller();
    private final Chances chances = new Chances();
    private final int[] found = new int[SIZE + 1];
    private int latestFinding;
    private int told;

    public FeltCold() {
    }

    // ---- 1 rows, texts, towns

    public int row(int r, int n) {
        if (!isRow(r) || n > ROW_SIZE) {
            return BAD;
        }
        if (n < 0) {
            return find(SIZE);
        }
        rows.make(r, n);
        return n;
    }

    public int lay(int r, int i, int v) {
        int refused = refusedPlace(r, i);
        if (refused != 0) {
            return refused;
        }
        told = rows.get(r, i);
        rows.set(r, i, v);
        return 1;
    }

    public int at(int r, int i) {
        int refused = refusedPlace(r, i);
        if (refused != 0) {
            return refused;
        }
        told = rows.get(r, i);
        return 1;
    }

    public int tear(int r) {
        int refused = refusedRow(r);
        if (refused != 0) {
            return refused;
        }
        rows.remove(r);
        return 1;
    }

    public int copy(int r, int i, int to, int j, int n) {
        if (!isRow(r) || !isRow(to)) {
            return BAD;
        }
        if (n < 0) {
            return find(SIZE);
        }
        if (rows.isMissing(r) || rows.isMissing(to)) {
            return find(NOTHING);
        }
        if (!rows.hasAll(r, i, n) || !rows.hasAll(to, j, n)) {
            return find(BEYOND);
        }
        rows.move(r, i, to, j, n);
        return 1;
    }

    public int mean(int r) {
        int refused = refusedRow(r);
        if (refused != 0) {
            return refused;
        }
        int size = rows.sizeOf(r);
        if (size == 0) {
            return find(NOUGHT);
        }
        told = (int) (rows.sum(r) / size);
        return 1;
    }

    public int text(int t, int n) {
        if (!isText(t) || n > TEXT_SIZE) {
            return BAD;
        }
        if (n < 0) {
            return find(SIZE);
        }
        texts.make(t, n);
        return n;
    }

    public int put(int t, int i, int v) {
        int refused = refusedText(t);
        if (refused != 0) {
            return refused;
        }
        if (!texts.has(t, i)) {
            return find(BEYOND);
        }
        int was = texts.get(t, i);
        texts.set(t, i, (byte) v);
        return was + 1000;
    }

    public int fault(int t) {
        int refused = refusedText(t);
        if (refused != 0) {
            return refused;
        }
        return reader.read(texts, t);
    }

    public int town(int t) {
        int refused = refusedText(t);
        if (refused != 0) {
            return refused;
        }
        if (reader.read(texts, t) != NONE) {
            return STATE;
        }
        town.settle(reader.plan);
        deeds.forget();
        return town.members();
    }

    public int member(int i, int what) {
        if (!isMember(i) || what < 0 || what > 7) {
            return BAD;
        }
        told = ofMember(i, what);
        return 1;
    }

    public int room(int r, int what) {
        if (!isRoom(r) || what < 0 || what > 3) {
            return BAD;
        }
        switch (what) {
            case 0:
                return town.degrees[r];
            case 1:
                return town.needOf(r);
            case 2:
                return town.there(r);
            default:
                return town.there(r) & town.doers();
        }
    }

    public int mark(int i, int kind) {
        if (!isMember(i) || kind <= ONE || kind > OLD) {
            return BAD;
        }
        if (!isOfKind(town.kindOf(i), kind)) {
            return find(UNLIKE);
        }
        switch (kind) {
            case SNEEZER:
                return Integer.bitCount(town.would(i));
            case TWIN:
                return town.otherTwins(i);
            case MARRIED:
                return Math.max(0, town.feltBy(i) - town.markOf(i) - town.shiftOf[i]);
            case FEVERISH:
                return Integer.bitCount(town.there(town.placeOf[i]) & sick(town.coldOf));
            default:
                return DRIFT_HOURS - town.hours % DRIFT_HOURS;
        }
    }

    // ---- 2 deeds

    public int walk(int i, int r) {
        if (!isMember(i) || !isRoom(r)) {
            return BAD;
        }
        if (town.placeOf[i] == r) {
            return STATE;
        }
        if (deeds.left() < 1) {
            return FULL;
        }
        deeds.carryOut(town, WALKING, i, r);
        return town.steps;
    }

    public int hour() {
        int refused = refusedDeed();
        if (refused != 0) {
            return refused;
        }
        int caught = town.catchers(town.coldOf);
        deeds.carryOut(town, PASSING, 0, 0);
        return caught;
    }

    public int soup() {
        int refused = refusedDeed();
        if (refused != 0) {
            return refused;
        }
        deeds.carryOut(town, SERVING, 0, 0);
        return town.doers();
    }

    public int cold(int i) {
        if (!isMember(i)) {
            return BAD;
        }
        if (town.coldOf[i] > 0) {
            return STATE;
        }
        if (deeds.left() < 1) {
            return FULL;
        }
        deeds.carryOut(town, CATCHING, i, 0);
        return Integer.bitCount(sick(town.coldOf));
    }

    public int love(int i, int v) {
        if (!isMember(i) || v < -MOST_SHIFT || v > MOST_SHIFT) {
            return BAD;
        }
        if (town.shiftOf[i] == v) {
            return STATE;
        }
        if (deeds.left() < 1) {
            return FULL;
        }
        deeds.carryOut(town, LOVING, i, v);
        return town.doesNow(i);
    }

    public int fire(int r, int v) {
        if (!isRoom(r) || !isDegree(v)) {
            return BAD;
        }
        int was = town.degrees[r];
        if (was == v) {
            return STATE;
        }
        if (deeds.left() < 1) {
            return FULL;
        }
        deeds.carryOut(town, HEATING, r, v);
        return was;
    }

    public int undo(int n) {
        if (n < 0 || n > deeds.number) {
            return BAD;
        }
        int undone = deeds.number - n;
        deeds.goBack(town, n);
        return undone;
    }

    public int keep(int k) {
        if (!isKept(k)) {
            return BAD;
        }
        if (town.isEmpty()) {
            return STATE;
        }
        deeds.store(k);
        return deeds.number;
    }

    public int on(int k) {
        if (!isKept(k)) {
            return BAD;
        }
        if (deeds.keptNumber[k] < 0) {
            return find(NOTHING);
        }
        deeds.resume(town, k);
        return deeds.number;
    }

    // ---- 3 how warm it is (aside)

    public int span(int r) {
        if (!isRoom(r)) {
            return BAD;
        }
        int span = town.spanIn(r, town.there(r));
        told = Integer.bitCount(span);
        return span;
    }

    public int spanBy(int r, int set) {
        if (!isRoom(r) || !town.isSet(set)) {
            return BAD;
        }
        return Integer.bitCount(town.spanIn(r, set));
    }

    public int known() {
        int set = 0;
        for (int r = 0; r < town.rooms(); r++) {
            if (Integer.bitCount(town.spanIn(r, town.there(r))) <= town.needOf(r)) {
                set |= 1 << r;
            }
        }
        return set;
    }

    public int box(int r, int n) {
        if (!isRoom(r) || n < 0 || n > MOST_MEMBERS) {
            return BAD;
        }
        if (n > town.members()) {
            return NONE;
        }
        int best = 0;
        int fewest = DEGREES + 1;
        for (int set = 0; set <= town.everybody(); set++) {
            if (Integer.bitCount(set) == n) {
                int size = Integer.bitCount(town.spanIn(r, set));
                if (size < fewest) {
                    fewest = size;
                    best = set;
                }
            }
        }
        told = fewest;
        return best;
    }

    // ---- 4 whom to send where

    public int send(int r) {
        if (!isRow(r)) {
            return BAD;
        }
        if (town.isEmpty()) {
            return STATE;
        }
        sender.seek(town, MOST_STEPS);
        if (sender.bestKnown < town.rooms()) {
            return NONE;
        }
        rows.make(r, town.members());
        for (int i = 0; i < town.members(); i++) {
            rows.set(r, i, sender.bestGoes[i]);
        }
        return sender.bestSteps;
    }

    public int most(int steps) {
        if (steps < 0 || steps > MOST_STEPS) {
            return BAD;
        }
        if (town.isEmpty()) {
            return STATE;
        }
        sender.seek(town, steps);
        told = sender.bestSteps;
        return sender.bestKnown;
    }

    // ---- 5 degrees that they can tell

    public int parts(int set) {
        if (town.isEmpty()) {
            return STATE;
        }
        if (!town.isSet(set)) {
            return BAD;
        }
        teller.look(town);
        int parts = teller.partsBy(set);
        told = teller.greatest;
        return parts;
    }

    public int fewest() {
        if (town.isEmpty()) {
            return STATE;
        }
        teller.look(town);
        int all = teller.partsBy(town.everybody());
        int best = town.everybody();
        for (int set = 0; set <= town.everybody(); set++) {
            if (Integer.bitCount(set) < Integer.bitCount(best) && teller.partsBy(set) == all) {
                best = set;
            }
        }
        told = best;
        return Integer.bitCount(best);
    }

    public int alike(int degree) {
        if (!isDegree(degree)) {
            return BAD;
        }
        if (town.isEmpty()) {
            return STATE;
        }
        return town.spanAt(degree, town.everybody());
    }

    // ---- 6 records

    public int fits(int r) {
        int refused = refusedRecord(r);
        if (refused != 0) {
            return refused;
        }
        int set = fitting(r, NONE);
        told = Integer.bitCount(set);
        return set;
    }

    public int tickled(int r) {
        int refused = refusedRecord(r);
        if (refused != 0) {
            return refused;
        }
        int set = 0;
        for (int k = 0; k + 1 < rows.sizeOf(r); k += 2) {
            if (fitting(r, k) != 0) {
                set |= 1 << rows.get(r, k);
            }
        }
        return set;
    }

    public int shifts(int i, int r) {
        int refused = refusedDays(i, r);
        if (refused != 0) {
            return refused;
        }
        int set = 0;
        for (int shift = -MOST_SHIFT; shift <= MOST_SHIFT; shift++) {
            int does = town.wouldAs(i, town.kindOf(i), shift);
            if (agreesWithDays(does, r)) {
                set |= 1 << (shift + MOST_SHIFT);
            }
        }
        return set;
    }

    public int kinds(int i, int r) {
        int refused = refusedDays(i, r);
        if (refused != 0) {
            return refused;
        }
        int set = 0;
        for (int kind = ONE; kind <= OLD; kind++) {
            int does = town.wouldAs(i, kind, town.shiftOf[i]);
            if (agreesWithDays(does, r)) {
                set |= 1 << kind;
            }
        }
        return set;
    }

    // ---- 7 colds, soup

    public int spreads(int n) {
        if (n < 0 || n > MOST_SPREAD) {
            return BAD;
        }
        if (town.isEmpty()) {
            return STATE;
        }
        int[] later = town.copyOfColds();
        int ever = sick(later);
        for (int h = 0; h < n; h++) {
            town.passColds(later);
            ever |= sick(later);
        }
        told = ever;
        return sick(later);
    }

    public int soups(int i, int n, int does) {
        if (town.isEmpty()) {
            return STATE;
        }
        if (!isMember(i) || n < 0 || n > MOST_SOUPS || does < 0 || does > 1) {
            return BAD;
        }
        int best = NONE;
        for (int set = 0; set < 1 << n; set++) {
            boolean fewer = best == NONE || Integer.bitCount(set) < Integer.bitCount(best);
            if (fewer && town.staysSo(i, n, set, does)) {
                best = set;
            }
        }
        if (best == NONE) {
            return NONE;
        }
        told = best;
        return Integer.bitCount(best);
    }

    // ---- 8 chances, lots

    public int odds(int r, int p) {
        return weighed(r, p, false);
    }

    public int mid(int r, int p) {
        return weighed(r, p, true);
    }

    public int lots(int n, int seed) {
        if (n < 1 || n > MOST_LOTS || seed < 1 || seed >= LOT_MODULUS) {
            return BAD;
        }
        if (town.isEmpty()) {
            return STATE;
        }
        if (deeds.left() < n) {
            return FULL;
        }
        long lot = seed;
        for (int k = 0; k < n; k++) {
            lot = lot * LOT_FACTOR % LOT_MODULUS;
            carryOutLot(lot);
        }
        return town.steps;
    }

    // ---- 9 what is told

    public int asked() {
        return told;
    }

    public long upper() {
        return chances.over;
    }

    public long lower() {
        return chances.under;
    }

    public int count(int what) {
        switch (what) {
            case 0:
                return town.members();
            case 1:
                return town.rooms();
            case 2:
                return town.hours;
            case 3:
                return deeds.number;
            case 4:
                return town.steps;
            case 5:
                return town.soupLeft;
            case 6:
                return town.doers();
            case 7:
                return town.sneezers();
            case 8:
                return present(rows.sizes);
            case 9:
                return present(texts.sizes);
            case 10:
                return present(deeds.keptNumber);
            default:
                return BAD;
        }
    }

    public int finding() {
        return latestFinding;
    }

    public int findings(int f) {
        if (f < NOTHING || f > SIZE) {
            return BAD;
        }
        return found[f];
    }

    public long digest() {
        long h = 17;
        for (int what = 0; what <= 10; what++) {
            h = 31 * h + count(what);
        }
        for (int r = 0; r < town.rooms(); r++) {
            for (int what = 0; what <= 3; what++) {
                h = 31 * h + room(r, what);
            }
        }
        for (int i = 0; i < town.members(); i++) {
            for (int what = 0; what <= 7; what++) {
                h = 31 * h + ofMember(i, what);
            }
        }
        for (int k = 0; k < KEPT; k++) {
            h = 31 * h + deeds.keptNumber[k];
        }
        return digestTexts(digestRows(h));
    }

    private long digestRows(long before) {
        long h = before;
        for (int r = 0; r < ROWS; r++) {
            h = 31 * h + rows.sizeOf(r);
            for (int i = 0; i < rows.sizeOf(r); i++) {
                h = 31 * h + rows.get(r, i);
            }
        }
        return h;
    }

    private long digestTexts(long before) {
        long h = before;
        for (int t = 0; t < TEXTS; t++) {
            h = 31 * h + texts.sizeOf(t);
            for (int i = 0; i < texts.sizeOf(t); i++) {
                h = 31 * h + texts.get(t, i);
            }
        }
        return h;
    }

    private int find(int which) {
        latestFinding = which;
        found[which]++;
        return FINDING;
    }

    private static boolean isRow(int r) {
        return r >= 0 && r < ROWS;
    }

    private static boolean isText(int t) {
        return t >= 0 && t < TEXTS;
    }

    private static boolean isKept(int k) {
        return k >= 0 && k < KEPT;
    }

    private static boolean isDegree(int degree) {
        return degree >= 0 && degree <= MOST_DEGREE;
    }

    private boolean isRoom(int r) {
        return r >= 0 && r < town.rooms();
    }

    private boolean isMember(int i) {
        return i >= 0 && i < town.members();
    }

    private int ofMember(int i, int what) {
        switch (what) {
            case 0:
                return town.kindOf(i);
            case 1:
                return town.markOf(i);
            case 2:
                return town.widthOf(i);
            case 3:
                return town.placeOf[i];
            case 4:
                return town.coldOf[i];
            case 5:
                return town.shiftOf[i];
            case 6:
                return town.feltBy(i);
            default:
                return town.doesNow(i);
        }
    }

    /** 0, or what a ROW that has to be there is refused by. */
    private int refusedRow(int r) {
        if (!isRow(r)) {
            return BAD;
        }
        return rows.isMissing(r) ? find(NOTHING) : 0;
    }

    /** 0, or what a place of a ROW is refused by. */
    private int refusedPlace(int r, int i) {
        int refused = refusedRow(r);
        if (refused != 0) {
            return refused;
        }
        return rows.has(r, i) ? 0 : find(BEYOND);
    }

    /** 0, or what a TEXT that has to be there is refused by. */
    private int refusedText(int t) {
        if (!isText(t)) {
            return BAD;
        }
        return texts.isMissing(t) ? find(NOTHING) : 0;
    }

    /** 0, or what a DEED of the whole TOWN is refused by. */
    private int refusedDeed() {
        if (town.isEmpty()) {
            return STATE;
        }
        return deeds.left() < 1 ? FULL : 0;
    }

    /** 0, or what a ROW of pairs of MEMBERS is refused by. */
    private int refusedRecord(int r) {
        if (!isRow(r)) {
            return BAD;
        }
        if (town.isEmpty()) {
            return STATE;
        }
        return refusedPairs(r, town.members());
    }

    /** 0, or what a ROW of pairs of DEGREES for a MEMBER is refused by. */
    private int refusedDays(int i, int r) {
        if (!isMember(i) || !isRow(r)) {
            return BAD;
        }
        return refusedPairs(r, DEGREES);
    }

    private int refusedPairs(int r, int firsts) {
        if (rows.isMissing(r)) {
            return find(NOTHING);
        }
        if (rows.sizeOf(r) % 2 != 0) {
            return find(SIZE);
        }
        return rows.arePairs(r, firsts) ? 0 : find(UNLIKE);
    }

    /** The DEGREES by which a record is so, the pair at one place (or at NONE) taken the other way round. */
    private int fitting(int r, int turned) {
        int set = ALL_DEGREES;
        for (int k = 0; k + 1 < rows.sizeOf(r); k += 2) {
            boolean did = (rows.get(r, k + 1) == 1) != (k == turned);
            set &= seen(town.would(rows.get(r, k)), did);
        }
        return set;
    }

    private boolean agreesWithDays(int does, int r) {
        boolean agrees = true;
        for (int k = 0; k + 1 < rows.sizeOf(r); k += 2) {
            agrees = agrees && (does >> rows.get(r, k) & 1) == rows.get(r, k + 1);
        }
        return agrees;
    }

    private int weighed(int r, int p, boolean mean) {
        if (!isRoom(r) || p < 0 || p > TWELVE) {
            return BAD;
        }
        chances.weigh(town, r, p, mean);
        return 1;
    }

    private void carryOutLot(long lot) {
        int people = town.members();
        int rooms = town.rooms();
        if (people < 1 || rooms < 1) {
            return;
        }
        int who = (int) (lot / 8 % people);
        switch ((int) (lot % 4)) {
            case 2:
                deeds.carryOut(town, WALKING, who, (town.placeOf[who] + 1) % rooms);
                break;
            case 3:
                deeds.carryOut(town, CATCHING, who, 0);
                break;
            default:
                deeds.carryOut(town, PASSING, 0, 0);
                break;
        }
    }

    /** The DEGREES at which one who DOES it at a set of them is seen to do it, or not to. */
    private static int seen(int does, boolean did) {
        return did ? does : ~does & ALL_DEGREES;
    }

    /** Who has a COLD (bits). */
    private static int sick(int[] colds) {
        int set = 0;
        for (int i = 0; i < colds.length; i++) {
            if (colds[i] > 0) {
                set |= 1 << i;
            }
        }
        return set;
    }

    /** How many of these sizes are of something that is there. */
    private static int present(int[] sizes) {
        int number = 0;
        for (int size : sizes) {
            if (size >= 0) {
                number++;
            }
        }
        return number;
    }

    /** Whether all of a KIND are of another one, too. */
    private static boolean isOfKind(int kind, int other) {
        return kind == other || other == ONE
            || kind == FEVERISH && other == SNEEZER
            || kind == OLD && other == MARRIED;
    }

    /** ROWS of ints, each with its size (-1: missing). */
    private static final class Rows {
        private final int[][] places = new int[ROWS][ROW_SIZE];
        private final int[] sizes = new int[ROWS];

        Rows() {
            Arrays.fill(sizes, -1);
        }

        void make(int r, int n) {
            Arrays.fill(places[r], 0);
            sizes[r] = n;
        }

        void remove(int r) {
            sizes[r] = -1;
        }

        boolean isMissing(int r) {
            return sizes[r] < 0;
        }

        int sizeOf(int r) {
            return sizes[r];
        }

        boolean has(int r, int i) {
            return i >= 0 && i < sizes[r];
        }

        /** Whether there are n places from i on; n is not below 0. */
        boolean hasAll(int r, int i, int n) {
            return i >= 0 && i <= sizes[r] - n;
        }

        int get(int r, int i) {
            return places[r][i];
        }

        void set(int r, int i, int v) {
            places[r][i] = v;
        }

        void move(int r, int i, int to, int j, int n) {
            System.arraycopy(places[r], i, places[to], j, n);
        }

        long sum(int r) {
            long sum = 0;
            for (int i = 0; i < sizes[r]; i++) {
                sum += places[r][i];
            }
            return sum;
        }

        /** Whether each pair is a number below firsts, and 0 or 1. */
        boolean arePairs(int r, int firsts) {
            for (int k = 0; k + 1 < sizes[r]; k += 2) {
                int first = places[r][k];
                int second = places[r][k + 1];
                if (first < 0 || first >= firsts || second < 0 || second > 1) {
                    return false;
                }
            }
            return true;
        }
    }

    /** TEXTS, each with its size (-1: missing). */
    private static final class Texts {
        private final byte[][] signs = new byte[TEXTS][TEXT_SIZE];
        private final int[] sizes = new int[TEXTS];

        Texts() {
            Arrays.fill(sizes, -1);
        }

        void make(int t, int n) {
            Arrays.fill(signs[t], (byte) BLANK);
            sizes[t] = n;
        }

        boolean isMissing(int t) {
            return sizes[t] < 0;
        }

        int sizeOf(int t) {
            return sizes[t];
        }

        boolean has(int t, int i) {
            return i >= 0 && i < sizes[t];
        }

        int get(int t, int i) {
            return signs[t][i];
        }

        void set(int t, int i, byte v) {
            signs[t][i] = v;
        }
    }

    /** What a TEXT says: ROOMS and MEMBERS as they are at first. */
    private static final class Plan {
        private final int[] degrees = new int[MOST_ROOMS];
        private final int[] needs = new int[MOST_ROOMS];
        private final int[] kindNumbers = new int[MOST_MEMBERS];
        private final int[] marks = new int[MOST_MEMBERS];
        private final int[] widths = new int[MOST_MEMBERS];
        private final int[] places = new int[MOST_MEMBERS];
        private int rooms;
        private int members;

        void clear() {
            rooms = 0;
            members = 0;
        }

        boolean hasSpaceForRoom() {
            return members == 0 && rooms < MOST_ROOMS;
        }

        boolean hasSpaceForMember() {
            return rooms > 0 && members < MOST_MEMBERS;
        }

        void addRoom(int degree, int need) {
            if (hasSpaceForRoom()) {
                degrees[rooms] = degree;
                needs[rooms] = need;
                rooms++;
            }
        }

        void addMember(int kind, int degree, int width, int place) {
            if (hasSpaceForMember()) {
                kindNumbers[members] = kind;
                marks[members] = degree;
                widths[members] = width;
                places[members] = place;
                members++;
            }
        }

        void takeFrom(Plan other) {
            rooms = other.rooms;
            members = other.members;
            System.arraycopy(other.degrees, 0, degrees, 0, MOST_ROOMS);
            System.arraycopy(other.needs, 0, needs, 0, MOST_ROOMS);
            System.arraycopy(other.kindNumbers, 0, kindNumbers, 0, MOST_MEMBERS);
            System.arraycopy(other.marks, 0, marks, 0, MOST_MEMBERS);
            System.arraycopy(other.widths, 0, widths, 0, MOST_MEMBERS);
            System.arraycopy(other.places, 0, places, 0, MOST_MEMBERS);
        }
    }

    /** Reads a TEXT into a plan of its own, so that a FAULT leaves the TOWN as it is. */
    private static final class Reader {
        private final Plan plan = new Plan();
        private int place;
        private int number;

        /** The FAULT, or NONE. */
        int read(Texts texts, int t) {
            plan.clear();
            place = 0;
            int size = texts.sizeOf(t);
            for (int item = 0; item <= MOST_ROOMS + MOST_MEMBERS; item++) {
                skipBlanks(texts, t);
                if (place >= size) {
                    return plan.members == 0 ? size : NONE;
                }
                int fault = readItem(texts, t);
                if (fault != NONE) {
                    return fault;
                }
            }
            return place;
        }

        private void skipBlanks(Texts texts, int t) {
            for (int k = 0; k < TEXT_SIZE && texts.has(t, place) && texts.get(t, place) == BLANK; k++) {
                place++;
            }
        }

        private int readItem(Texts texts, int t) {
            int sign = texts.get(t, place);
            if (sign == ROOM_SIGN) {
                return plan.hasSpaceForRoom() ? readRoom(texts, t) : place;
            }
            int kind = kindBySign(sign);
            boolean goesOn = kind != NONE && plan.hasSpaceForMember();
            return goesOn ? readMember(texts, t, kind) : place;
        }

        private int readRoom(Texts texts, int t) {
            place++;
            int fault = readNumber(texts, t, 2, 0, MOST_DEGREE);
            if (fault != NONE) {
                return fault;
            }
            int degree = number;
            fault = readNumber(texts, t, 2, 1, DEGREES);
            if (fault != NONE) {
                return fault;
            }
            plan.addRoom(degree, number);
            return NONE;
        }

        private int readMember(Texts texts, int t, int kind) {
            place++;
            int fault = readNumber(texts, t, 2, 0, MOST_DEGREE);
            if (fault != NONE) {
                return fault;
            }
            int degree = number;
            fault = readNumber(texts, t, 1, 0, 9);
            if (fault != NONE) {
                return fault;
            }
            int width = number;
            fault = readNumber(texts, t, 1, 0, plan.rooms - 1);
            if (fault != NONE) {
                return fault;
            }
            plan.addMember(kind, degree, width, number);
            return NONE;
        }

        /** The FAULT, or NONE, and the number is what so many figures say. */
        private int readNumber(Texts texts, int t, int figures, int least, int most) {
            int first = place;
            number = 0;
            for (int k = 0; k < figures; k++) {
                if (!texts.has(t, place)) {
                    return texts.sizeOf(t);
                }
                int figure = texts.get(t, place) - NOUGHT_SIGN;
                if (figure < 0 || figure > 9) {
                    return place;
                }
                number = 10 * number + figure;
                place++;
            }
            return number < least || number > most ? first : NONE;
        }

        private static int kindBySign(int sign) {
            for (int kind = 0; kind < KIND_SIGNS.length; kind++) {
                if (KIND_SIGNS[kind] == sign) {
                    return kind;
                }
            }
            return NONE;
        }
    }

    /** The TOWN as it was written and as it is now. */
    private static final class Town {
        private final Plan plan = new Plan();
        private final int[] degrees = new int[MOST_ROOMS];
        private final int[] placeOf = new int[MOST_MEMBERS];
        private final int[] coldOf = new int[MOST_MEMBERS];
        private final int[] shiftOf = new int[MOST_MEMBERS];
        private final int[] laterColds = new int[MOST_MEMBERS];
        private int hours;
        private int soupLeft;
        private int steps;

        void settle(Plan written) {
            plan.takeFrom(written);
            begin();
        }

        /** As the TEXT said it, ahead of all DEEDS. */
        void begin() {
            System.arraycopy(plan.degrees, 0, degrees, 0, MOST_ROOMS);
            System.arraycopy(plan.places, 0, placeOf, 0, MOST_MEMBERS);
            Arrays.fill(coldOf, 0);
            Arrays.fill(shiftOf, 0);
            hours = 0;
            soupLeft = 0;
            steps = 0;
        }

        int members() {
            return plan.members;
        }

        int rooms() {
            return plan.rooms;
        }

        boolean isEmpty() {
            return plan.members == 0;
        }

        int everybody() {
            return (1 << plan.members) - 1;
        }

        boolean isSet(int set) {
            return set >= 0 && set <= everybody();
        }

        int needOf(int r) {
            return plan.needs[r];
        }

        int kindOf(int i) {
            return plan.kindNumbers[i];
        }

        int markOf(int i) {
            return plan.marks[i];
        }

        int widthOf(int i) {
            return plan.widths[i];
        }

        /** Who is in a ROOM (bits). */
        int there(int r) {
            int set = 0;
            for (int i = 0; i < plan.members; i++) {
                if (placeOf[i] == r) {
                    set |= 1 << i;
                }
            }
            return set;
        }

        int sneezers() {
            int number = 0;
            for (int i = 0; i < plan.members; i++) {
                if (isOfKind(kindOf(i), SNEEZER)) {
                    number++;
                }
            }
            return number;
        }

        int otherTwins(int i) {
            int number = 0;
            for (int other = 0; other < plan.members; other++) {
                if (other != i && kindOf(other) == TWIN && placeOf[other] == placeOf[i]) {
                    number++;
                }
            }
            return number;
        }

        int feltBy(int i) {
            return feeling(kindOf(i), markOf(i) + shiftOf[i], soupLeft, hours);
        }

        private static int feeling(int kind, int base, int soup, int hour) {
            int felt = base;
            if (soup > 0) {
                felt++;
            }
            if (kind == MARRIED || kind == OLD) {
                felt += 2;
            }
            if (kind == OLD) {
                felt -= hour / DRIFT_HOURS;
            }
            return felt;
        }

        /** The DEGREES at which one of a KIND who FEELS so DOES it, COLD aside. */
        private static int doingBy(int kind, int felt, int width) {
            int least = felt;
            int most = MOST_DEGREE;
            if (kind == SNEEZER) {
                least = 0;
                most = felt;
            } else if (kind == FEVERISH) {
                least = felt + 1;
            } else if (kind == TWIN) {
                most = felt + width;
            }
            // What one FEELS may lie outside of all DEGREES.
            least = least < 0 ? 0 : least;
            most = most > MOST_DEGREE ? MOST_DEGREE : most;
            return least > most ? 0 : ALL_DEGREES << least & ALL_DEGREES >> (MOST_DEGREE - most);
        }

        /** The DEGREES at which a MEMBER would DO it, COLD aside, were he of a KIND and SHIFTED so. */
        int wouldAs(int i, int kind, int shift) {
            return doingBy(kind, feeling(kind, markOf(i) + shift, soupLeft, hours), widthOf(i));
        }

        /** The DEGREES at which a MEMBER would DO it, COLD aside. */
        int would(int i) {
            return wouldAs(i, kindOf(i), shiftOf[i]);
        }

        /** The DEGREES at which a MEMBER DOES it. */
        int does(int i) {
            return coldOf[i] > 0 ? 0 : wouldAs(i, kindOf(i), shiftOf[i]);
        }

        int doesNow(int i) {
            return does(i) >> degrees[placeOf[i]] & 1;
        }

        /** Who DOES it now (bits). */
        int doers() {
            int set = 0;
            for (int i = 0; i < plan.members; i++) {
                set |= doesNow(i) << i;
            }
            return set;
        }

        /** The DEGREES at which a MEMBER would do just as at one. */
        int likeAt(int i, int degree) {
            int does = does(i);
            return seen(does, (does >> degree & 1) == 1);
        }

        /** The DEGREES at which a set of MEMBERS would do just as at one. */
        int spanAt(int degree, int set) {
            int span = ALL_DEGREES;
            for (int i = 0; i < plan.members; i++) {
                if ((set >> i & 1) == 1) {
                    span &= likeAt(i, degree);
                }
            }
            return span;
        }

        int spanIn(int r, int set) {
            return spanAt(degrees[r], set);
        }

        int[] copyOfColds() {
            System.arraycopy(coldOf, 0, laterColds, 0, MOST_MEMBERS);
            return laterColds;
        }

        /** Who gets a COLD, if an HOUR passes with these COLDS (bits). */
        int catchers(int[] colds) {
            int sick = sick(colds);
            int set = 0;
            for (int i = 0; i < plan.members; i++) {
                if (colds[i] == 0 && (there(placeOf[i]) & sick) != 0) {
                    set |= 1 << i;
                }
            }
            return set;
        }

        void passColds(int[] colds) {
            int caught = catchers(colds);
            for (int i = 0; i < plan.members; i++) {
                if ((caught >> i & 1) == 1) {
                    colds[i] = COLD_HOURS;
                } else if (colds[i] > 0) {
                    colds[i]--;
                }
            }
        }

        /** Whether a MEMBER does it (or does not) in each of n HOURS, if SOUP is served ahead of a set of them. */
        boolean staysSo(int i, int n, int served, int does) {
            int soup = soupLeft;
            for (int h = 0; h < n; h++) {
                if ((served >> h & 1) == 1) {
                    soup = SOUP_HOURS;
                }
                int felt = feeling(kindOf(i), markOf(i) + shiftOf[i], soup, hours + h);
                int doing = doingBy(kindOf(i), felt, widthOf(i));
                if ((doing >> degrees[placeOf[i]] & 1) != does) {
                    return false;
                }
                soup = Math.max(0, soup - 1);
            }
            return true;
        }

        void act(int what, int who, int v) {
            switch (what) {
                case WALKING:
                    steps += Math.abs(v - placeOf[who]);
                    placeOf[who] = v;
                    break;
                case PASSING:
                    passColds(coldOf);
                    soupLeft = Math.max(0, soupLeft - 1);
                    hours++;
                    break;
                case SERVING:
                    soupLeft = SOUP_HOURS;
                    break;
                case CATCHING:
                    coldOf[who] = COLD_HOURS;
                    break;
                case LOVING:
                    shiftOf[who] = v;
                    break;
                default:
                    degrees[who] = v;
                    break;
            }
        }
    }

    /**
     * The DEEDS since the TOWN was written, now and as they were kept.
     * What the TOWN was is found by doing them again, so that no TOWN is held twice.
     */
    private static final class Deeds {
        private final int[] done = new int[MOST_DEEDS];
        private final int[][] kept = new int[KEPT][MOST_DEEDS];
        private final int[] keptNumber = new int[KEPT];
        private int number;

        Deeds() {
            Arrays.fill(keptNumber, -1);
        }

        void forget() {
            number = 0;
            Arrays.fill(keptNumber, -1);
        }

        int left() {
            return MOST_DEEDS - number;
        }

        void carryOut(Town town, int what, int who, int v) {
            if (left() > 0) {
                done[number] = 10000 * what + 100 * who + v + MOST_SHIFT;
                number++;
                town.act(what, who, v);
            }
        }

        void goBack(Town town, int n) {
            town.begin();
            for (int k = 0; k < n; k++) {
                int deed = done[k];
                town.act(deed / 10000, deed / 100 % 100, deed % 100 - MOST_SHIFT);
            }
            number = n;
        }

        void store(int k) {
            System.arraycopy(done, 0, kept[k], 0, number);
            keptNumber[k] = number;
        }

        void resume(Town town, int k) {
            System.arraycopy(kept[k], 0, done, 0, keptNumber[k]);
            goBack(town, keptNumber[k]);
        }
    }

    /** Tries all ways to send MEMBERS to ROOMS: most ROOMS KNOWN, then fewest STEPS, then the first by MEMBERS. */
    private static final class Sender {
        private final int[] like = new int[MOST_MEMBERS * MOST_ROOMS];
        private final int[] spans = new int[MOST_ROOMS];
        private final int[] goes = new int[MOST_MEMBERS];
        private final int[] bestGoes = new int[MOST_MEMBERS];
        private int bestKnown;
        private int bestSteps;

        void seek(Town town, int limit) {
            for (int i = 0; i < town.members(); i++) {
                for (int r = 0; r < town.rooms(); r++) {
                    like[i * MOST_ROOMS + r] = town.likeAt(i, town.degrees[r]);
                }
            }
            Arrays.fill(spans, ALL_DEGREES);
            bestKnown = -1;
            bestSteps = 0;
            sendFrom(town, 0, 0, limit);
        }

        /** Sends MEMBER i, then those behind him; there are at most six, so it goes seven deep. */
        private void sendFrom(Town town, int i, int steps, int limit) {
            if (steps > limit || bestKnown == town.rooms() && steps >= bestSteps) {
                return;
            }
            if (i >= town.members() || i >= MOST_MEMBERS) {
                compare(town, steps);
                return;
            }
            for (int r = 0; r < town.rooms(); r++) {
                int before = spans[r];
                spans[r] &= like[i * MOST_ROOMS + r];
                goes[i] = r;
                sendFrom(town, i + 1, steps + Math.abs(r - town.placeOf[i]), limit);
                spans[r] = before;
            }
        }

        private void compare(Town town, int steps) {
            int known = 0;
            for (int r = 0; r < town.rooms(); r++) {
                if (Integer.bitCount(spans[r]) <= town.needOf(r)) {
                    known++;
                }
            }
            if (known > bestKnown || known == bestKnown && steps < bestSteps) {
                bestKnown = known;
                bestSteps = steps;
                System.arraycopy(goes, 0, bestGoes, 0, MOST_MEMBERS);
            }
        }
    }

    /** How sets of MEMBERS tell DEGREES apart. */
    private static final class Teller {
        private final int[] doersAt = new int[DEGREES];
        private final int[] sizes = new int[1 << MOST_MEMBERS];
        private int greatest;

        /** Notes who DOES it at each DEGREE. */
        void look(Town town) {
            Arrays.fill(doersAt, 0);
            for (int i = 0; i < town.members(); i++) {
                int does = town.does(i);
                for (int degree = 0; degree <= MOST_DEGREE; degree++) {
                    doersAt[degree] |= (does >> degree & 1) << i;
                }
            }
        }

        int partsBy(int set) {
            Arrays.fill(sizes, 0);
            greatest = 0;
            int parts = 0;
            for (int degree = 0; degree <= MOST_DEGREE; degree++) {
                int part = doersAt[degree] & set;
                if (sizes[part] == 0) {
                    parts++;
                }
                sizes[part]++;
                greatest = Math.max(greatest, sizes[part]);
            }
            return parts;
        }
    }

    /** A chance, or a mean, in lowest terms. */
    private static final class Chances {
        private long over = 0;
        private long under = 1;

        /** The chance that there are DEGREES by which it is as it seems, or the mean of how many there are. */
        void weigh(Town town, int r, int p, boolean mean) {
            int there = town.there(r);
            long sum = 0;
            for (int falsely = 0; falsely <= there; falsely++) {
                if ((falsely & ~there) == 0) {
                    int number = Integer.bitCount(seeming(town, r, there, falsely));
                    sum += ways(there, falsely, p) * (mean ? number : Math.min(number, 1));
                }
            }
            long all = 1;
            for (int k = 0; k < Integer.bitCount(there); k++) {
                all *= TWELVE;
            }
            reduce(sum, all);
        }

        /** The DEGREES by which all in a ROOM would do as they seem to, if a set of them do it falsely. */
        private static int seeming(Town town, int r, int there, int falsely) {
            int set = ALL_DEGREES;
            for (int i = 0; i < town.members(); i++) {
                if ((there >> i & 1) == 1) {
                    int does = town.does(i);
                    boolean did = (does >> town.degrees[r] & 1) != (falsely >> i & 1);
                    set &= seen(does, did);
                }
            }
            return set;
        }

        /** In how many of 12 to the power of those there just a set of them do it falsely. */
        private static long ways(int there, int falsely, int p) {
            long ways = 1;
            for (int i = 0; i < MOST_MEMBERS; i++) {
                if ((there >> i & 1) == 1) {
                    ways *= (falsely >> i & 1) == 1 ? p : TWELVE - p;
                }
            }
            return ways;
        }

        private void reduce(long sum, long all) {
            long a = sum;
            long b = all;
            // Numbers below 2 to the 27th need fewer than 64 divisions.
            for (int k = 0; k < 64 && b != 0; k++) {
                long rest = a % b;
                a = b;
                b = rest;
            }
            if (a != 0) {
                over = sum / a;
                under = all / a;
            }
        }
    }
}
