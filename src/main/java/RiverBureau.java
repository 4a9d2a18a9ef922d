import java.util.Arrays;

/** The bureau of returning rivers: a delta whose arms are stamped open and shut; the document tells each call. */
public final class RiverBureau {
    public static final int BAD = -1, FULL = -2, FINDING = -3, STATE = -4, SPENT = -6, NONE = -9;

    private static final int NOTHING = 1, BEYOND = 2, UNLIKE = 3, NOUGHT = 4, SIZE = 5;
    private static final int TIDAL = 1, SILTY = 2, BARGED = 3, LEAKY = 4, MARRIED = 5;
    private static final int ROWS = 6, ROW_ROOM = 40, TEXTS = 4, TEXT_ROOM = 60, KEEPS = 3, MISSING = -1;
    private static final int MOST_ARMS = 5, MOST_SETS = 32, MOST_WAITS = 8, MOST_NEED = 9, MOST_DEEDS = 60;
    private static final int MOST_SALT = 9, SWEET_SALT = 4, DEAD_SILT = 9;
    private static final int MOST_RUN = 12, MOST_PLANNED = 3, MOST_FORESEEN = 40;
    private static final int MOST_LOTS = 20, LOT_ROOM = 6, SAME_HARVESTS = 100;
    private static final int BLANK = 32, NOUGHT_SIGN = 48, RIVER_SIGN = 114, WAIT_SIGN = 119, BYTE_SHIFT = 1000;
    private static final long LOT_FACTOR = 48271L, LOT_MODULUS = 2147483647L;

    private final Shelf rows = new Shelf(ROWS, ROW_ROOM);
    private final Shelf texts = new Shelf(TEXTS, TEXT_ROOM);
    private final Chart chart = new Chart();
    private final Reader reader = new Reader(chart);
    private final Reader tester = new Reader(new Chart());
    private final Story story = new Story();
    private final Kept[] kept = new Kept[KEEPS];
    private final Flow aside = new Flow();
    private final Planner planner = new Planner(chart);
    private final Debts debts = new Debts();
    private final Offices offices = new Offices(chart);
    private final int[] found = new int[SIZE + 1];
    private int latestFound;
    private int told;
    private long chanceUpper;
    private long chanceLower = 1;

    public RiverBureau() {
        for (int k = 0; k < KEEPS; k++) {
            kept[k] = new Kept();
        }
    }

    // ---- 1 rows, texts, deltas

    public int row(int r, int n) {
        return makeIn(rows, r, n, 0);
    }

    public int lay(int r, int i, int v) {
        int refusal = placeRefusal(rows, r, i);
        if (refusal != 0) {
            return refusal;
        }
        told = rows.valueAt(r, i);
        rows.setValue(r, i, v);
        return 1;
    }

    public int at(int r, int i) {
        int refusal = placeRefusal(rows, r, i);
        if (refusal != 0) {
            return refusal;
        }
        told = rows.valueAt(r, i);
        return 1;
    }

    public int tear(int r) {
        int refusal = shelfRefusal(rows, r);
        if (refusal != 0) {
            return refusal;
        }
        rows.drop(r);
        return 1;
    }

    public int copy(int r, int i, int to, int j, int n) {
        if (!rows.knows(r) || !rows.knows(to)) {
            return BAD;
        }
        if (n < 0) {
            return answerFinding(SIZE);
        }
        if (!rows.isThere(r) || !rows.isThere(to)) {
            return answerFinding(NOTHING);
        }
        if (!rows.hasStretch(r, i, n) || !rows.hasStretch(to, j, n)) {
            return answerFinding(BEYOND);
        }
        rows.move(r, i, to, j, n);
        return 1;
    }

    public int mean(int r) {
        int refusal = shelfRefusal(rows, r);
        if (refusal != 0) {
            return refusal;
        }
        int size = rows.sizeOf(r);
        if (size <= 0) {
            return answerFinding(NOUGHT);
        }
        told = (int) (rows.sumOf(r) / size);
        return 1;
    }

    public int text(int t, int n) {
        return makeIn(texts, t, n, BLANK);
    }

    public int put(int t, int i, int v) {
        int refusal = placeRefusal(texts, t, i);
        if (refusal != 0) {
            return refusal;
        }
        int was = texts.valueAt(t, i);
        texts.setValue(t, i, (byte) v);
        return was + BYTE_SHIFT;
    }

    public int fault(int t) {
        int refusal = shelfRefusal(texts, t);
        return refusal != 0 ? refusal : tester.read(texts, t);
    }

    public int delta(int t) {
        int refusal = shelfRefusal(texts, t);
        if (refusal != 0) {
            return refusal;
        }
        if (tester.read(texts, t) != NONE) {
            return STATE;
        }
        reader.read(texts, t);
        story.begin(chart);
        for (int k = 0; k < KEEPS; k++) {
            kept[k].there = false;
        }
        return chart.arms;
    }

    public int arm(int i, int what) {
        if (!chart.hasArm(i) || what < 0 || what > 7) {
            return BAD;
        }
        told = armTells(i, what);
        return 1;
    }

    public int mark(int i, int kind) {
        if (!chart.hasArm(i) || kind < TIDAL || kind > MARRIED) {
            return BAD;
        }
        if (!chart.isOf(i, kind)) {
            return answerFinding(UNLIKE);
        }
        return markOf(i, kind);
    }

    public int need(int i, int v) {
        if (!chart.hasArm(i) || v < 0 || v > MOST_NEED) {
            return BAD;
        }
        int was = chart.need[i];
        chart.need[i] = v;
        chart.forgetServed();
        return was;
    }

    public int awaits(int i, int j, int is) {
        if (!chart.hasArm(i) || !chart.hasArm(j) || i == j || is < 0 || is > 1) {
            return BAD;
        }
        int was = chart.waits[i] >> j & 1;
        chart.waits[i] = withBit(chart.waits[i], j, is == 1);
        return was;
    }

    // ---- 2 deeds

    public int stamp(int i) {
        if (!chart.hasArm(i)) {
            return BAD;
        }
        if (!story.present.mayBeStamped(chart, i)) {
            return STATE;
        }
        if (story.isFull()) {
            return FULL;
        }
        doStamp(i);
        return story.present.open;
    }

    public int season() {
        if (chart.arms == 0) {
            return STATE;
        }
        if (story.isFull()) {
            return FULL;
        }
        told = doSeason();
        return Integer.bitCount(told);
    }

    public int leave(int i) {
        if (!chart.hasArm(i)) {
            return BAD;
        }
        if (!hasBit(story.present.barges, i)) {
            return STATE;
        }
        if (story.isFull()) {
            return FULL;
        }
        story.noteDeed();
        story.present.dropBarge(i);
        return 1;
    }

    public int undo(int n) {
        if (n < 0 || n > story.deeds) {
            return BAD;
        }
        int undone = story.deeds - n;
        story.goBackTo(n);
        return undone;
    }

    public int now() {
        if (chart.arms == 0) {
            return STATE;
        }
        told = story.present.open;
        return story.present.season;
    }

    public int water(int i) {
        return chart.hasArm(i) ? chart.waterOf(i, story.present.open) : BAD;
    }

    public int keep(int k) {
        if (k < 0 || k >= KEEPS) {
            return BAD;
        }
        if (chart.arms == 0) {
            return STATE;
        }
        kept[k].story.copyFrom(story);
        System.arraycopy(chart.need, 0, kept[k].needs, 0, MOST_ARMS);
        kept[k].there = true;
        return story.deeds;
    }

    public int on(int k) {
        if (k < 0 || k >= KEEPS) {
            return BAD;
        }
        if (!kept[k].there) {
            return answerFinding(NOTHING);
        }
        story.copyFrom(kept[k].story);
        System.arraycopy(kept[k].needs, 0, chart.need, 0, MOST_ARMS);
        chart.forgetServed();
        return story.deeds;
    }

    // ---- 3 plans (aside)

    public int run(int r) {
        int refusal = deltaRowRefusal(r);
        if (refusal != 0) {
            return refusal;
        }
        if (rows.sizeOf(r) > MOST_RUN) {
            return answerFinding(SIZE);
        }
        if (!isPlan(r)) {
            return answerFinding(UNLIKE);
        }
        aside.copyFrom(story.present);
        int harvests = 0;
        int stamps = 0;
        for (int k = 0; k < rows.sizeOf(r); k++) {
            stamps += Integer.bitCount(aside.stampSet(chart, rows.valueAt(r, k)));
            harvests += Integer.bitCount(aside.goBy(chart));
        }
        told = stamps;
        return harvests;
    }

    public int best(int n, int r) {
        if (n < 0 || n > MOST_PLANNED || !rows.knows(r)) {
            return BAD;
        }
        if (chart.arms == 0) {
            return STATE;
        }
        planner.seek(story.present, n, NONE);
        takePlan(n, r);
        told = planner.bestStamps;
        return planner.bestWorth;
    }

    public int fewest(int i, int n, int r) {
        if (!chart.hasArm(i) || n < 0 || n > MOST_PLANNED || !rows.knows(r)) {
            return BAD;
        }
        planner.seek(story.present, n, i);
        if (planner.bestWorth <= 0) {
            return NONE;
        }
        takePlan(n, r);
        return planner.bestStamps;
    }

    public int dies() {
        if (chart.arms == 0) {
            return STATE;
        }
        aside.copyFrom(story.present);
        for (int seasons = 1; seasons <= MOST_FORESEEN; seasons++) {
            int deadAhead = aside.dead;
            aside.goBy(chart);
            int newlyDead = aside.dead & ~deadAhead;
            if (newlyDead != 0) {
                told = seasons;
                return firstOf(newlyDead);
            }
        }
        return NONE;
    }

    public int barge(int i, int n) {
        if (!chart.hasArm(i) || n < 0 || n > MOST_RUN) {
            return BAD;
        }
        if (!hasBit(story.present.barges, i)) {
            return SAME_HARVESTS;
        }
        aside.copyFrom(story.present);
        int with = aside.harvestsOfSeasons(chart, n);
        aside.copyFrom(story.present);
        aside.dropBarge(i);
        int without = aside.harvestsOfSeasons(chart, n);
        return without - with + SAME_HARVESTS;
    }

    // ---- 4 who opened

    public int fits(int r) {
        int refusal = armRowRefusal(r);
        if (refusal != 0) {
            return refusal;
        }
        int fitting = 0;
        int first = NONE;
        for (int set = 0; set < chart.sets(); set++) {
            if (stampedToFit(set, r) != NONE) {
                fitting++;
                first = first == NONE ? set : first;
            }
        }
        told = first;
        return fitting;
    }

    public int opened(int r) {
        int refusal = armRowRefusal(r);
        if (refusal != 0) {
            return refusal;
        }
        int common = NONE;
        for (int set = 0; set < chart.sets(); set++) {
            int stamped = stampedToFit(set, r);
            if (stamped != NONE) {
                common = common == NONE ? stamped : common & stamped;
            }
        }
        return common == NONE ? 0 : common;
    }

    // ---- 5 debts, offices, eels

    public int settle(int r) {
        int refusal = armRowRefusal(r);
        if (refusal != 0) {
            return refusal;
        }
        if (rows.sumOf(r) != 0) {
            return answerFinding(NOUGHT);
        }
        return debts.fewestPayments(rows, r);
    }

    public int stalled() {
        told = chart.countWaits();
        return offices.waitingForThemselves();
    }

    public int loosen(int r) {
        if (!rows.knows(r)) {
            return BAD;
        }
        long loosened = offices.fewestToLoosen();
        int many = Long.bitCount(loosened);
        rows.make(r, many, 0);
        int filled = 0;
        for (int code = 0; code <= Offices.LAST_CODE; code++) {
            if ((loosened & Offices.bitOf(code)) != 0) {
                rows.setValue(r, filled, code);
                filled++;
            }
        }
        return many;
    }

    public int eels(int i, int j) {
        if (!chart.hasArm(i) || !chart.hasArm(j) || i == j) {
            return BAD;
        }
        int low = Math.min(i, j);
        int high = Math.max(i, j);
        for (int k = low; k <= high; k++) {
            if (!hasBit(story.present.open, k)) {
                return NONE;
            }
        }
        return high - low - 1;
    }

    // ---- 6 chances, lots

    public int odds(int i) {
        if (!chart.hasArm(i)) {
            return BAD;
        }
        int free = story.present.stampable(chart);
        int cases = 0;
        int good = 0;
        for (int set = 0; set < chart.sets(); set++) {
            if ((set & ~free) == 0) {
                cases++;
                aside.copyFrom(story.present);
                aside.stampSet(chart, set);
                good += aside.harvestable(chart) >> i & 1;
            }
        }
        tellChances(good, cases);
        return 1;
    }

    public int lots(int n, int seed) {
        if (n < 1 || n > MOST_LOTS || seed < 1 || seed >= LOT_MODULUS) {
            return BAD;
        }
        if (chart.arms == 0) {
            return STATE;
        }
        long lot = seed;
        int harvests = 0;
        for (int k = 0; k < n && story.deeds + LOT_ROOM <= MOST_DEEDS; k++) {
            lot = lot * LOT_FACTOR % LOT_MODULUS;
            doStamps((int) (lot / 32) & chart.sets() - 1);
            harvests += Integer.bitCount(doSeason());
        }
        return harvests;
    }

    // ---- 7 what is told

    public int asked() {
        return told;
    }

    public long upper() {
        return chanceUpper;
    }

    public long lower() {
        return chanceLower;
    }

    public int count(int what) {
        switch (what) {
            case 0: return chart.arms;
            case 1: return chart.river;
            case 2: return story.deeds;
            case 3: return Integer.bitCount(story.present.dead);
            case 4: return Integer.bitCount(story.present.barges);
            case 5: return chart.countOf(SILTY);
            case 6: return rows.countThere();
            case 7: return texts.countThere();
            case 8: return countKept();
            case 9: return story.present.allHarvests();
            default: return BAD;
        }
    }

    public int finding() {
        return latestFound;
    }

    public int findings(int f) {
        return f < NOTHING || f > SIZE ? BAD : found[f];
    }

    public long digest() {
        long h = 17;
        for (int what = 0; what <= 9; what++) {
            h = 31 * h + count(what);
        }
        h = 31 * h + story.present.season;
        for (int i = 0; i < chart.arms; i++) {
            for (int what = 0; what <= 7; what++) {
                h = 31 * h + armTells(i, what);
            }
            h = 31 * h + chart.waits[i];
        }
        for (int k = 0; k < KEEPS; k++) {
            h = 31 * h + (kept[k].there ? kept[k].story.deeds : MISSING);
        }
        return texts.digestOnto(rows.digestOnto(h));
    }

    // ---- what several calls share

    private int answerFinding(int which) {
        latestFound = which;
        found[which]++;
        return FINDING;
    }

    private int makeIn(Shelf shelf, int r, int n, int filler) {
        if (!shelf.knows(r) || n > shelf.room) {
            return BAD;
        }
        if (n < 0) {
            return answerFinding(SIZE);
        }
        shelf.make(r, n, filler);
        return n;
    }

    /** 0, if nothing is to be refused; the other refusals here likewise. */
    private int shelfRefusal(Shelf shelf, int r) {
        if (!shelf.knows(r)) {
            return BAD;
        }
        return shelf.isThere(r) ? 0 : answerFinding(NOTHING);
    }

    private int placeRefusal(Shelf shelf, int r, int i) {
        int refusal = shelfRefusal(shelf, r);
        if (refusal != 0) {
            return refusal;
        }
        return shelf.hasStretch(r, i, 1) ? 0 : answerFinding(BEYOND);
    }

    private int deltaRowRefusal(int r) {
        if (!rows.knows(r)) {
            return BAD;
        }
        return chart.arms == 0 ? STATE : shelfRefusal(rows, r);
    }

    private int armRowRefusal(int r) {
        int refusal = deltaRowRefusal(r);
        if (refusal != 0) {
            return refusal;
        }
        return rows.sizeOf(r) == chart.arms ? 0 : answerFinding(SIZE);
    }

    private int armTells(int i, int what) {
        Flow flow = story.present;
        switch (what) {
            case 0: return chart.kind[i];
            case 1: return chart.width[i];
            case 2: return chart.need[i];
            case 3: return flow.open >> i & 1;
            case 4: return flow.saltOf(i);
            case 5: return flow.siltOf(i);
            case 6: return flow.harvestsOf(i);
            default: return flow.mayBeStamped(chart, i) ? 1 : 0;
        }
    }

    private int markOf(int i, int kind) {
        Flow flow = story.present;
        switch (kind) {
            case TIDAL: return stepsOfTwo(SWEET_SALT + 1 - flow.saltOf(i));
            case SILTY: return stepsOfTwo(DEAD_SILT - flow.siltOf(i));
            case BARGED: return flow.barges >> i & 1;
            case LEAKY: return chart.waterOf(i, flow.open);
            default: return flow.followerOf(chart, i);
        }
    }

    private static int stepsOfTwo(int way) {
        return way <= 0 ? 0 : (way + 1) / 2;
    }

    private static boolean hasBit(int set, int i) {
        return (set >> i & 1) != 0;
    }

    private static int withBit(int set, int i, boolean is) {
        return is ? set | 1 << i : set & ~(1 << i);
    }

    private static int firstOf(int set) {
        int first = 0;
        while (first < MOST_ARMS && !hasBit(set, first)) {
            first++;
        }
        return first;
    }

    private void doStamp(int i) {
        story.noteDeed();
        story.present.stampArm(chart, i);
    }

    private void doStamps(int set) {
        for (int i = 0; i < chart.arms; i++) {
            if (hasBit(set, i) && story.present.mayBeStamped(chart, i)) {
                doStamp(i);
            }
        }
    }

    private int doSeason() {
        story.noteDeed();
        return story.present.goBy(chart);
    }

    private boolean isPlan(int r) {
        for (int k = 0; k < rows.sizeOf(r); k++) {
            int set = rows.valueAt(r, k);
            if (set < 0 || set >= chart.sets()) {
                return false;
            }
        }
        return true;
    }

    private void takePlan(int n, int r) {
        rows.make(r, n, 0);
        for (int k = 0; k < n; k++) {
            rows.setValue(r, k, planner.bestPlan[k]);
        }
    }

    /** The arms that a set stamps in a season behind which the salt is as in a row; NONE, if it is not. */
    private int stampedToFit(int set, int r) {
        aside.copyFrom(story.present);
        int stamped = aside.stampSet(chart, set);
        aside.goBy(chart);
        for (int i = 0; i < chart.arms; i++) {
            if (aside.saltOf(i) != rows.valueAt(r, i)) {
                return NONE;
            }
        }
        return stamped;
    }

    /** Cases are a power of two, so halving is all that lowest terms ask for. */
    private void tellChances(int good, int cases) {
        int above = good;
        int below = good == 0 ? 1 : cases;
        for (int k = 0; k < MOST_ARMS && (above | below) % 2 == 0; k++) {
            above /= 2;
            below /= 2;
        }
        chanceUpper = above;
        chanceLower = below;
    }

    private int countKept() {
        int many = 0;
        for (int k = 0; k < KEEPS; k++) {
            many += kept[k].there ? 1 : 0;
        }
        return many;
    }

    /** Rows of numbers, each of which is there or missing; made once, so that calls make nothing. */
    private static final class Shelf {
        final int room;
        private final int[][] places;
        private final int[] sizes;

        Shelf(int many, int room) {
            this.room = room;
            places = new int[many][room];
            sizes = new int[many];
            Arrays.fill(sizes, MISSING);
        }

        boolean knows(int r) {
            return r >= 0 && r < sizes.length;
        }

        boolean isThere(int r) {
            return knows(r) && sizes[r] != MISSING;
        }

        /** Subtracts, as the sum of two wanted numbers could wrap around. */
        boolean hasStretch(int r, int i, int n) {
            return knows(r) && i >= 0 && n >= 0 && i <= sizes[r] - n;
        }

        int sizeOf(int r) {
            return knows(r) ? sizes[r] : MISSING;
        }

        int valueAt(int r, int i) {
            return hasStretch(r, i, 1) ? places[r][i] : 0;
        }

        void setValue(int r, int i, int v) {
            if (hasStretch(r, i, 1)) {
                places[r][i] = v;
            }
        }

        void make(int r, int n, int filler) {
            if (knows(r) && n >= 0 && n <= room) {
                Arrays.fill(places[r], filler);
                sizes[r] = n;
            }
        }

        void drop(int r) {
            if (knows(r)) {
                sizes[r] = MISSING;
            }
        }

        void move(int r, int i, int to, int j, int n) {
            if (hasStretch(r, i, n) && hasStretch(to, j, n)) {
                System.arraycopy(places[r], i, places[to], j, n);
            }
        }

        /** How many numbers came. */
        int copyOut(int r, int[] to) {
            int many = Math.min(to.length, Math.max(0, sizeOf(r)));
            for (int i = 0; i < many; i++) {
                to[i] = places[r][i];
            }
            return many;
        }

        long sumOf(int r) {
            long sum = 0;
            for (int i = 0; i < sizeOf(r); i++) {
                sum += places[r][i];
            }
            return sum;
        }

        int countThere() {
            int many = 0;
            for (int r = 0; r < sizes.length; r++) {
                many += sizes[r] != MISSING ? 1 : 0;
            }
            return many;
        }

        long digestOnto(long start) {
            long h = start;
            for (int r = 0; r < sizes.length; r++) {
                h = 31 * h + sizes[r];
                for (int i = 0; i < sizes[r]; i++) {
                    h = 31 * h + places[r][i];
                }
            }
            return h;
        }
    }

    /** What a text tells of a delta, and what calls change of that aside from deeds: needs and waits. */
    private static final class Chart {
        private static final int[] LETTERS = {97, 116, 115, 98, 108, 109};
        private static final int[] PARENTS = {0, 0, 0, 0, SILTY, BARGED};
        private static final int UNKNOWN = -1;

        final int[] kind = new int[MOST_ARMS];
        final int[] width = new int[MOST_ARMS];
        final int[] need = new int[MOST_ARMS];
        final int[] year = new int[MOST_ARMS];
        final int[] day = new int[MOST_ARMS];
        final int[] waits = new int[MOST_ARMS];
        /** By the set of open arms: plans ask for the same few sets again and again. */
        private final int[] served = new int[MOST_SETS];
        int arms;
        int river;

        void clear() {
            arms = 0;
            river = 0;
            Arrays.fill(waits, 0);
            forgetServed();
        }

        void forgetServed() {
            Arrays.fill(served, UNKNOWN);
        }

        static int kindOfLetter(int sign) {
            for (int k = 0; k < LETTERS.length; k++) {
                if (LETTERS[k] == sign) {
                    return k;
                }
            }
            return NONE;
        }

        boolean hasArm(int i) {
            return i >= 0 && i < arms;
        }

        int sets() {
            return 1 << arms;
        }

        boolean isOf(int i, int asKind) {
            return kind[i] == asKind || PARENTS[kind[i]] == asKind;
        }

        int countOf(int asKind) {
            int many = 0;
            for (int i = 0; i < arms; i++) {
                many += isOf(i, asKind) ? 1 : 0;
            }
            return many;
        }

        int countWaits() {
            int many = 0;
            for (int i = 0; i < arms; i++) {
                many += Integer.bitCount(waits[i]);
            }
            return many;
        }

        int waterOf(int i, int open) {
            if (!hasBit(open, i)) {
                return kind[i] == LEAKY ? 1 : 0;
            }
            int widths = 0;
            for (int j = 0; j < arms; j++) {
                widths += (open >> j & 1) * width[j];
            }
            if (widths <= 0) {
                return 0;
            }
            int left = river;
            for (int j = 0; j < arms; j++) {
                left -= hasBit(open, j) ? river * width[j] / widths : 0;
            }
            int openAhead = Integer.bitCount(open & (1 << i) - 1);
            return river * width[i] / widths + (openAhead < left ? 1 : 0);
        }

        /** The arms that have no less water than they need. */
        int servedOf(int open) {
            int known = open & MOST_SETS - 1;
            if (served[known] == UNKNOWN) {
                int set = 0;
                for (int i = 0; i < arms; i++) {
                    set |= waterOf(i, known) >= need[i] ? 1 << i : 0;
                }
                served[known] = set;
            }
            return served[known];
        }
    }

    /** Reads a text onto a chart, up to its first fault. */
    private static final class Reader {
        /** No byte, so it is no letter, no figure and no blank. */
        private static final int END = 1000;

        private final Chart chart;
        private final int[] signs = new int[TEXT_ROOM];
        private int size;
        private int place;
        private int waitsRead;
        private int fault;

        Reader(Chart chart) {
            this.chart = chart;
        }

        int read(Shelf texts, int t) {
            size = texts.copyOut(t, signs);
            place = 0;
            waitsRead = 0;
            fault = NONE;
            chart.clear();
            readRiver();
            for (int items = 0; items < TEXT_ROOM && fault == NONE; items++) {
                skipBlanks();
                if (place >= size) {
                    break;
                }
                readItem();
            }
            if (fault == NONE && chart.arms == 0) {
                fault = size;
            }
            return fault;
        }

        private int nextSign() {
            return place < size && place < TEXT_ROOM ? signs[place] : END;
        }

        private void skipBlanks() {
            while (place < size && nextSign() == BLANK) {
                place++;
            }
        }

        private void readRiver() {
            skipBlanks();
            if (nextSign() != RIVER_SIGN) {
                fault = place;
                return;
            }
            place++;
            chart.river = 3 * readFigure(1, 9);
        }

        private void readItem() {
            if (nextSign() == WAIT_SIGN) {
                readWait();
                return;
            }
            int kind = Chart.kindOfLetter(nextSign());
            if (kind == NONE || chart.arms >= MOST_ARMS || waitsRead > 0) {
                fault = place;
                return;
            }
            readArm(kind);
        }

        private void readArm(int kind) {
            place++;
            int i = chart.arms;
            chart.kind[i] = kind;
            chart.width[i] = readFigure(1, 9);
            chart.need[i] = readFigure(0, MOST_NEED);
            chart.year[i] = readFigure(1, 6);
            chart.day[i] = readFigure(0, chart.year[i] - 1);
            chart.arms++;
        }

        private void readWait() {
            if (chart.arms == 0 || waitsRead >= MOST_WAITS) {
                fault = place;
                return;
            }
            place++;
            int i = readFigure(0, chart.arms - 1);
            int placeOfOther = place;
            int j = readFigure(0, chart.arms - 1);
            if (fault != NONE) {
                return;
            }
            if (i == j || hasBit(chart.waits[i], j)) {
                fault = placeOfOther;
                return;
            }
            chart.waits[i] |= 1 << j;
            waitsRead++;
        }

        /** 0 and no step, once there is a fault: the first one is the one that is told. */
        private int readFigure(int low, int high) {
            if (fault != NONE) {
                return 0;
            }
            int figure = nextSign() - NOUGHT_SIGN;
            if (figure < low || figure > high) {
                fault = place;
                return 0;
            }
            place++;
            return figure;
        }
    }

    /** What deeds change; small numbers are packed, so that plans copy it cheaply. */
    private static final class Flow {
        int season;
        int open;
        int barges;
        int dead;
        private int salts;
        private int silts;
        private long harvests;

        void begin(Chart chart) {
            season = 0;
            barges = 0;
            for (int i = 0; i < chart.arms; i++) {
                barges |= chart.isOf(i, BARGED) ? 1 << i : 0;
            }
            open = barges;
            dead = 0;
            salts = 0;
            silts = 0;
            harvests = 0;
        }

        void copyFrom(Flow other) {
            season = other.season;
            open = other.open;
            barges = other.barges;
            dead = other.dead;
            salts = other.salts;
            silts = other.silts;
            harvests = other.harvests;
        }

        int saltOf(int i) {
            return salts >> 4 * i & 15;
        }

        int siltOf(int i) {
            return silts >> 4 * i & 15;
        }

        int harvestsOf(int i) {
            return (int) (harvests >> 8 * i & 255);
        }

        int allHarvests() {
            int all = 0;
            for (int i = 0; i < MOST_ARMS; i++) {
                all += harvestsOf(i);
            }
            return all;
        }

        boolean mayBeStamped(Chart chart, int i) {
            int year = chart.year[i];
            if (year <= 0 || season % year != chart.day[i]) {
                return false;
            }
            return !hasBit(dead | open & barges, i) && (chart.waits[i] & ~open) == 0;
        }

        int stampable(Chart chart) {
            int set = 0;
            for (int i = 0; i < chart.arms; i++) {
                set |= mayBeStamped(chart, i) ? 1 << i : 0;
            }
            return set;
        }

        void stampArm(Chart chart, int i) {
            open ^= 1 << i;
            int follower = followerOf(chart, i);
            if (follower != NONE) {
                open = withBit(open, follower, hasBit(open, i));
            }
        }

        /** The arm that a married one takes along. */
        int followerOf(Chart chart, int i) {
            int behind = i + 1;
            boolean leads = chart.kind[i] == MARRIED && chart.hasArm(behind);
            return leads && !hasBit(dead | barges, behind) ? behind : NONE;
        }

        /** Which arms of the set were stamped indeed. */
        int stampSet(Chart chart, int set) {
            int stamped = 0;
            for (int i = 0; i < chart.arms; i++) {
                if (hasBit(set, i) && mayBeStamped(chart, i)) {
                    stampArm(chart, i);
                    stamped |= 1 << i;
                }
            }
            return stamped;
        }

        void dropBarge(int i) {
            barges = withBit(barges, i, false);
            open = withBit(open, i, false);
        }

        /** The arms whose harvests come in, if the season goes by as all are. */
        int harvestable(Chart chart) {
            int set = chart.servedOf(open) & ~dead;
            for (int i = 0; i < chart.arms; i++) {
                if (saltOf(i) > SWEET_SALT) {
                    set = withBit(set, i, false);
                }
            }
            return set;
        }

        int goBy(Chart chart) {
            int harvested = harvestable(chart);
            int served = chart.servedOf(open);
            for (int i = 0; i < chart.arms; i++) {
                harvests += (long) (harvested >> i & 1) << 8 * i;
                turnSalt(chart, i, hasBit(served, i));
                turnSilt(chart, i);
            }
            season++;
            return harvested;
        }

        private void turnSalt(Chart chart, int i, boolean hadEnough) {
            int salt = saltOf(i);
            if (hadEnough) {
                salt = Math.max(0, salt - 1);
            } else {
                salt = Math.min(MOST_SALT, salt + (chart.kind[i] == TIDAL ? 2 : 1));
            }
            salts = salts & ~(15 << 4 * i) | salt << 4 * i;
        }

        private void turnSilt(Chart chart, int i) {
            int silt = siltOf(i);
            if (hasBit(open, i)) {
                silt = Math.max(0, silt - 1);
            } else {
                silt = Math.min(DEAD_SILT, silt + (chart.isOf(i, SILTY) ? 2 : 1));
            }
            silts = silts & ~(15 << 4 * i) | silt << 4 * i;
            if (silt >= DEAD_SILT) {
                dead |= 1 << i;
                dropBarge(i);
            }
        }

        int harvestsOfSeasons(Chart chart, int n) {
            int all = 0;
            for (int k = 0; k < n; k++) {
                all += Integer.bitCount(goBy(chart));
            }
            return all;
        }
    }

    /** The flow as it is, and as it was ahead of each deed. */
    private static final class Story {
        final Flow present = new Flow();
        private final Flow[] ahead = new Flow[MOST_DEEDS];
        int deeds;

        Story() {
            for (int d = 0; d < MOST_DEEDS; d++) {
                ahead[d] = new Flow();
            }
        }

        void begin(Chart chart) {
            present.begin(chart);
            deeds = 0;
        }

        boolean isFull() {
            return deeds >= MOST_DEEDS;
        }

        void noteDeed() {
            if (!isFull()) {
                ahead[deeds].copyFrom(present);
                deeds++;
            }
        }

        void goBackTo(int n) {
            if (n >= 0 && n < deeds) {
                present.copyFrom(ahead[n]);
                deeds = n;
            }
        }

        void copyFrom(Story other) {
            present.copyFrom(other.present);
            deeds = other.deeds;
            for (int d = 0; d < deeds; d++) {
                ahead[d].copyFrom(other.ahead[d]);
            }
        }
    }

    /** A delta that is kept; waits are not. */
    private static final class Kept {
        final Story story = new Story();
        final int[] needs = new int[MOST_ARMS];
        boolean there;
    }

    /** Seeks the plan of most worth, of those the one with fewest stamps, of those the first. */
    private static final class Planner {
        final int[] bestPlan = new int[MOST_PLANNED];
        int bestWorth;
        int bestStamps;
        private final Chart chart;
        private final Flow[] stages = new Flow[MOST_PLANNED + 1];
        private final int[] plan = new int[MOST_PLANNED];
        private int seasons;
        private int target;
        private int mostInSeason;

        Planner(Chart chart) {
            this.chart = chart;
            for (int k = 0; k <= MOST_PLANNED; k++) {
                stages[k] = new Flow();
            }
        }

        /** With a target, the worth is that arm's harvest in the last season alone; without (NONE) all harvests. */
        void seek(Flow from, int n, int wantedArm) {
            seasons = Math.min(n, MOST_PLANNED);
            target = wantedArm;
            bestWorth = wantedArm == NONE ? -1 : 0;
            bestStamps = 0;
            mostInSeason = mostServed();
            stages[0].copyFrom(from);
            search(this, 0, 0, 0);
        }

        private static void search(Planner p, int depth, int worth, int stamps) {
            if (depth >= p.seasons) {
                p.judge(worth, stamps);
                return;
            }
            Flow next = p.stages[depth + 1];
            for (int set = 0; set < p.chart.sets(); set++) {
                next.copyFrom(p.stages[depth]);
                // What is not stamped can be left out: such a set is alike to a smaller one, which came first.
                if (next.stampSet(p.chart, set) != set) {
                    continue;
                }
                int worthThen = worth + p.worthOf(next.harvestable(p.chart), depth);
                int stampsThen = stamps + Integer.bitCount(set);
                if (p.canWin(worthThen + p.hopeOf(next, depth + 1), stampsThen)) {
                    next.goBy(p.chart);
                    p.plan[depth] = set;
                    search(p, depth + 1, worthThen, stampsThen);
                }
            }
        }

        private int worthOf(int harvested, int depth) {
            if (target == NONE) {
                return Integer.bitCount(harvested);
            }
            return depth == seasons - 1 && hasBit(harvested, target) ? 1 : 0;
        }

        /** The most arms that any set of open ones serves at once; with a target, whether any serves that. */
        private int mostServed() {
            int most = 0;
            for (int open = 0; open < chart.sets(); open++) {
                int served = chart.servedOf(open);
                int many = target == NONE ? Integer.bitCount(served) : served >> target & 1;
                most = Math.max(most, many);
            }
            return most;
        }

        /** The most that seasons from a depth on can add: what can't win by it needs no looking at. */
        private int hopeOf(Flow flow, int depth) {
            int left = seasons - depth;
            if (target == NONE) {
                int living = chart.arms - Integer.bitCount(flow.dead);
                return left * Math.min(living, mostInSeason);
            }
            return left > 0 && !hasBit(flow.dead, target) ? mostInSeason : 0;
        }

        private boolean canWin(int worth, int stamps) {
            return worth > bestWorth || worth == bestWorth && stamps < bestStamps;
        }

        private void judge(int worth, int stamps) {
            if (canWin(worth, stamps)) {
                bestWorth = worth;
                bestStamps = stamps;
                System.arraycopy(plan, 0, bestPlan, 0, MOST_PLANNED);
            }
        }
    }

    /** Who owes whom: each group of arms whose debts are 0 together saves one payment. */
    private static final class Debts {
        private final long[] sums = new long[MOST_SETS];
        private final int[] groups = new int[MOST_SETS];

        int fewestPayments(Shelf rows, int r) {
            int arms = Math.min(MOST_ARMS, Math.max(0, rows.sizeOf(r)));
            int all = (1 << arms) - 1;
            for (int set = 1; set <= all; set++) {
                int first = firstOf(set);
                sums[set] = sums[set & ~(1 << first)] + rows.valueAt(r, first);
                groups[set] = mostGroupsWithin(set, arms) + (sums[set] == 0 ? 1 : 0);
            }
            return arms - groups[all];
        }

        private int mostGroupsWithin(int set, int arms) {
            int most = 0;
            for (int i = 0; i < arms; i++) {
                if (hasBit(set, i)) {
                    most = Math.max(most, groups[set & ~(1 << i)]);
                }
            }
            return most;
        }
    }

    /** Which arms wait for themselves, and what to loosen so that none does. */
    private static final class Offices {
        static final int LAST_CODE = 39;
        private final Chart chart;
        private final int[] reach = new int[MOST_ARMS];
        private final long[] cuts = new long[MOST_SETS];

        Offices(Chart chart) {
            this.chart = chart;
        }

        /** Small codes take high bits: of two sets alike in size the greater number is the first row. */
        static long bitOf(int code) {
            return 1L << LAST_CODE - code;
        }

        int waitingForThemselves() {
            System.arraycopy(chart.waits, 0, reach, 0, MOST_ARMS);
            for (int k = 0; k < chart.arms; k++) {
                for (int i = 0; i < chart.arms; i++) {
                    reach[i] |= hasBit(reach[i], k) ? reach[k] : 0;
                }
            }
            int set = 0;
            for (int i = 0; i < chart.arms; i++) {
                set |= reach[i] & 1 << i;
            }
            return set;
        }

        /**
         * Without circles there is an order in which all that an arm waits for comes ahead of it. So sets of
         * arms are put in order arm by arm, and waits for arms that come later are loosened.
         */
        long fewestToLoosen() {
            cuts[0] = 0;
            for (int set = 1; set < chart.sets(); set++) {
                boolean any = false;
                for (int i = 0; i < chart.arms; i++) {
                    if (hasBit(set, i)) {
                        int placed = set & ~(1 << i);
                        long cut = cuts[placed] | waitsLoosened(i, placed);
                        if (!any || isBetter(cut, cuts[set])) {
                            cuts[set] = cut;
                        }
                        any = true;
                    }
                }
            }
            return cuts[chart.sets() - 1];
        }

        private long waitsLoosened(int i, int placed) {
            long loosened = 0;
            for (int j = 0; j < chart.arms; j++) {
                if (hasBit(chart.waits[i] & ~placed, j)) {
                    loosened |= bitOf(8 * i + j);
                }
            }
            return loosened;
        }

        private static boolean isBetter(long cut, long than) {
            int many = Long.bitCount(cut);
            int manyThan = Long.bitCount(than);
            return many < manyThan || many == manyThan && cut > than;
        }
    }
}
