import java.util.Arrays;

/**
 * A sheet folded by two: linen told as a text, folds one by one, and what can be
 * asked of them. The promises are numbered in the project's document.
 */
public final class SheetByTwo {
    public static final int NONE = -1;

    private static final int NO_SUCH = -2;
    private static final int BELOW_ZERO = -3;
    private static final int FAULTY = -4;
    private static final int CANT_BE = -5;
    private static final int HAS_NOTHING = -6;
    private static final int NO_NUMBER = -7;
    private static final int OTHER_WIDTH = -8;
    private static final int NO_STATE = -100;
    private static final int NO_STATE_ROW = -600;

    private static final int TOP = 0;
    private static final int BOTTOM = 1;
    private static final int THIRD = 2;
    private static final int HERS = 3;
    private static final int HIS = 4;
    private static final int BOTH = 5;
    private static final int QUARTER = 8;
    private static final int UNTWIST = 9;
    private static final int MOVES = 10;
    private static final int TWIST_MORE = 10;
    private static final int TWIST_LESS = 11;
    private static final int NOTHING = 12;

    private static final int ALL_MOVES = 0b1111111111;
    private static final int MOVES_ALONE = 0b1111001111;

    private static final int SIZES = 48;
    private static final int ROOMS = 60;
    private static final int MOST_DONE = 60;
    private static final int MOST_CALLS = 6;
    private static final int MOST_PAIRS = 4;
    private static final int MOST_PILES = 6;
    private static final int MOST_SHEETS = 60;
    private static final int LEARNED = 999;
    private static final int MOST_PRESS = 999;
    private static final int SLOTS = 4;
    private static final int WIDTHS = 4;
    private static final int ROW_MOST = 60;
    private static final int IMAGES = 3;
    private static final int HIGHEST_SEED = 2_000_000_000;
    private static final int HUNDRED = 100;
    private static final int HIGHEST = 2_147_483_647;

    private final Tape tape = new Tape();
    private final Work work = new Work();
    private Linen spare = new Linen();
    private final Work[] images = new Work[IMAGES];
    private final Row[] rows = new Row[SLOTS];
    private final Search search = new Search();
    private final Trial trial = new Trial();
    private final Shares shares = new Shares();
    private final Press pressing = new Press();

    /** Promise 1. */
    public SheetByTwo() {
        for (int k = 0; k < IMAGES; k++) {
            images[k] = new Work();
        }
        for (int slot = 0; slot < SLOTS; slot++) {
            rows[slot] = new Row();
        }
    }

    /** Promise 2. */
    public int feed(int a, int b, int c, int d, int e) {
        if (!tape.hasSpace()) {
            return NONE;
        }
        tape.add(a);
        tape.add(b);
        tape.add(c);
        tape.add(d);
        tape.add(e);
        return tape.size;
    }

    /** Promise 3. */
    public int end(int n) {
        if (n < 0 || n > tape.size) {
            return NONE;
        }
        tape.size = n;
        return n;
    }

    /** Promise 4. */
    public int linen() {
        spare.clear();
        tape.begin();
        for (int i = 0; i < Tape.MOST && tape.goesOn(); i++) {
            if (i == 0) {
                tape.readSheet(spare);
            } else {
                tape.readLine(spare);
            }
            tape.endLine(spare);
        }
        tape.size = 0;
        if (tape.fault != 0) {
            return FAULTY;
        }
        Linen old = work.told;
        work.told = spare;
        spare = old;
        work.begin();
        return work.told.lines;
    }

    /** Promise 5. */
    public int fault(int what) {
        if (what == 0) {
            return tape.fault;
        }
        return what == 1 ? tape.faultPlace : NONE;
    }

    /** Promise 6. */
    public int state(int what) {
        return work.isNone() ? NO_STATE : viewOf(work.state, work.seconds, what);
    }

    /** Promise 7. */
    public int can(int move) {
        if (work.isNone() || !isMove(move)) {
            return NO_SUCH;
        }
        return Sheet.possible(work.state, move, work.told.space) ? 1 : 0;
    }

    /** Promise 8. */
    public int moves() {
        if (work.isNone()) {
            return NO_SUCH;
        }
        int bits = 0;
        for (int move = 0; move < MOVES; move++) {
            if (Sheet.possible(work.state, move, work.told.space)) {
                bits |= 1 << move;
            }
        }
        return bits;
    }

    /** Promise 9. */
    public int fold(int move) {
        if (work.isNone() || !isMove(move)) {
            return NO_SUCH;
        }
        return work.doAct(move) ? work.told.secondsOf(move) : CANT_BE;
    }

    /** Promise 10. */
    public int call(int call) {
        if (!isCall(call)) {
            return NO_SUCH;
        }
        int act = work.told.actOf(call);
        return work.doAct(act) ? act : CANT_BE;
    }

    /** Promise 11. */
    public int undo() {
        if (work.isNone()) {
            return NO_SUCH;
        }
        if (work.size == 0) {
            return CANT_BE;
        }
        work.takeBackTo(work.size - 1);
        return work.size;
    }

    /** Promise 12. */
    public int led(int i) {
        if (work.isNone()) {
            return NO_SUCH;
        }
        return work.doneAt(i);
    }

    /** Promise 13. */
    public int anew() {
        if (work.isNone()) {
            return NO_SUCH;
        }
        int were = work.size;
        work.begin();
        return were;
    }

    /** Promise 14. */
    public int plan(int slot) {
        int wrong = wrongRow(slot, MOVES);
        if (wrong != 0) {
            return wrong;
        }
        trial.follow(work, rows[slot]);
        return trial.done;
    }

    /** Promise 15. */
    public int after(int slot, int what) {
        int wrong = isView(what) ? wrongRow(slot, MOVES) : NO_SUCH;
        if (wrong != 0) {
            return noStateFor(wrong);
        }
        trial.follow(work, rows[slot]);
        return viewOf(trial.state, trial.seconds, what);
    }

    /** Promise 16. */
    public int fewest() {
        return hasWish() ? fewestIn(work.told.space) : NO_SUCH;
    }

    /** Promise 17. */
    public int step(int i) {
        if (!hasWish()) {
            return NO_SUCH;
        }
        exploreAhead();
        return search.moveTowards(search.firstWished(work.told.wish), i);
    }

    /** Promise 18. */
    public int quickest() {
        if (!hasWish()) {
            return NO_SUCH;
        }
        exploreAhead();
        return search.leastSeconds(work.told);
    }

    /** Promise 19. */
    public int quick(int i) {
        if (!hasWish()) {
            return NO_SUCH;
        }
        exploreAhead();
        return search.quickMove(work.told, i);
    }

    /** Promise 20. */
    public int alone() {
        if (!hasWish()) {
            return NO_SUCH;
        }
        exploreAlone();
        return search.depthOf(search.firstWished(work.told.wish));
    }

    /** Promise 21. */
    public int rail(int i) {
        if (!hasWish()) {
            return NO_SUCH;
        }
        exploreAlone();
        return search.moveTowards(search.firstWished(work.told.wish), i);
    }

    /** Promise 22. */
    public int brief(int n) {
        if (!hasWish() || n < 1 || n > ROOMS) {
            return NO_SUCH;
        }
        return fewestIn(n);
    }

    /** Promise 23. */
    public int room() {
        if (!hasWish()) {
            return NO_SUCH;
        }
        return fewestIn(ROOMS) == NONE ? NONE : leastRoomFor(HIGHEST);
    }

    /** Promise 24. */
    public int best() {
        if (!hasWish()) {
            return NO_SUCH;
        }
        int least = fewestIn(ROOMS);
        return least == NONE ? NONE : leastRoomFor(least);
    }

    /** Promise 25. */
    public int parcel(int longer, int wider) {
        if (work.isNone() || !isSize(longer) || !isSize(wider)) {
            return NO_SUCH;
        }
        exploreAhead();
        return search.depthOf(search.firstSized(longer, wider));
    }

    /** Promise 26. */
    public int parcels() {
        if (work.isNone()) {
            return NO_SUCH;
        }
        exploreAhead();
        return search.packages;
    }

    /** Promise 27. */
    public int reach(int n) {
        if (work.isNone() || n < 0 || n > 20) {
            return NO_SUCH;
        }
        exploreAhead();
        return search.within(n);
    }

    /** Promise 28. */
    public int most() {
        if (work.isNone()) {
            return NO_SUCH;
        }
        exploreAhead();
        int layers = 0;
        for (int i = 0; i < search.size; i++) {
            layers = Math.max(layers, work.told.layersOf(search.stateAt(i)));
        }
        return layers;
    }

    /** Promise 29. */
    public long ways(int n) {
        if (work.isNone() || !isWaysLength(n)) {
            return NO_SUCH;
        }
        exploreFromFirst();
        return search.waysTo(work.state, n);
    }

    /** Promise 30. */
    public int how(int n, int i) {
        if (work.isNone() || !isWaysLength(n)) {
            return NO_SUCH;
        }
        exploreFromFirst();
        return search.wayMove(work.state, n, i);
    }

    /** Promise 31. */
    public int means(int call) {
        return isCall(call) ? work.told.actOf(call) : NO_SUCH;
    }

    /** Promise 32. */
    public int called() {
        return hasWish() ? fewestByCalls((1 << work.told.calls) - 1) : NO_SUCH;
    }

    /** Promise 33. */
    public int words(int what) {
        if (!hasWish() || !isPart(what)) {
            return NO_SUCH;
        }
        int set = fewestUnlikeCalls();
        return set == NONE || what == 1 ? set : Integer.bitCount(set);
    }

    /** Promise 34. */
    public int alike() {
        if (work.isNone()) {
            return NO_SUCH;
        }
        int bits = 0;
        for (int call = 0; call < work.told.calls; call++) {
            if (work.told.herAct(call) == work.told.hisAct(call)) {
                bits |= 1 << call;
            }
        }
        return bits;
    }

    /** Promise 35. */
    public int doubled() {
        if (work.isNone()) {
            return NO_SUCH;
        }
        int bits = 0;
        for (int call = 0; call < work.told.calls; call++) {
            if (work.told.isToldBefore(call)) {
                bits |= 1 << call;
            }
        }
        return bits;
    }

    /** Promise 36. */
    public int right(int call, int what) {
        if (!isCall(call) || !isPart(what)) {
            return NO_SUCH;
        }
        return (int) partOf(work.told.rightOfTenThousand(call), HUNDRED * HUNDRED, what);
    }

    /** Promise 37. */
    public int twists(int call, int what) {
        if (!isCall(call) || !isPart(what)) {
            return NO_SUCH;
        }
        return (int) partOf(work.told.twistsOfTenThousand(call), HUNDRED * HUNDRED, what);
    }

    /** Promise 38. */
    public int mend(int call, int what) {
        if (!isCall(call) || !isPart(what) || work.told.actOf(call) > BOTTOM) {
            return NO_SUCH;
        }
        // The mean M is halve + t (untwist + M), t being the chance of a TWIST.
        long all = HUNDRED * HUNDRED;
        long twisted = work.told.twistsOfTenThousand(call);
        long above = all * work.told.secondsOf(TOP) + twisted * work.told.secondsOf(UNTWIST);
        return (int) partOf(above, all - twisted, what);
    }

    /** Promise 39. */
    public long chance(int slot, int what) {
        int wrong = isPart(what) ? wrongRow(slot, work.told.calls) : NO_SUCH;
        if (wrong != 0) {
            return wrong;
        }
        return chanceOf(rows[slot], what);
    }

    /** Promise 40. */
    public int out(int what) {
        if (work.isNone() || !isPart(what)) {
            return NO_SUCH;
        }
        int untwists = Math.abs(Sheet.twistOf(work.state));
        return what == 0 ? untwists : untwists * work.told.secondsOf(UNTWIST);
    }

    /** Promise 41. */
    public int fits() {
        if (work.isNone()) {
            return NO_SUCH;
        }
        int thickness = work.told.thicknessOf(work.state);
        return work.told.press == 0 || thickness <= 0 ? NONE : work.told.press / thickness;
    }

    /** Promise 42. */
    public int packs(int slot, int what) {
        if (work.isNone() || !isSlot(slot) || !isPart(what)) {
            return NO_SUCH;
        }
        Row row = rows[slot];
        if (!row.held) {
            return HAS_NOTHING;
        }
        if (row.hasBelowZero()) {
            return NO_SUCH;
        }
        // What can't be asked comes ahead of NONE.
        if (work.told.press == 0) {
            return NONE;
        }
        return what == 0 ? pressing.highest(row, work.told.press) : pressing.mostOf(row, work.told.press);
    }

    /** Promise 43. */
    public int thin() {
        if (work.isNone()) {
            return NO_SUCH;
        }
        int thickness = work.told.thicknessOf(work.state);
        if (work.told.press == 0 || thickness <= 0) {
            return NONE;
        }
        int thinner = work.told.press / (work.told.press / thickness + 1);
        return thinner == 0 ? NONE : thickness - thinner;
    }

    /** Promise 44. */
    public int learn(int pair, int n) {
        if (!isPair(pair) || n < 0 || n > LEARNED) {
            return NO_SUCH;
        }
        return work.told.secondsForSheets(pair, n);
    }

    /** Promise 45. */
    public int skilled(int pair, int n) {
        if (!isPair(pair)) {
            return NO_SUCH;
        }
        for (int sheet = 0; sheet < LEARNED; sheet++) {
            if (work.told.secondsForSheet(pair, sheet) <= n) {
                return sheet;
            }
        }
        return NONE;
    }

    /** Promise 46. */
    public int soonest(int n) {
        if (work.isNone() || n < 1 || n > LEARNED) {
            return NO_SUCH;
        }
        int first = NONE;
        int least = HIGHEST;
        for (int pair = 0; pair < work.told.pairs; pair++) {
            int seconds = work.told.secondsForSheets(pair, n);
            if (seconds < least) {
                least = seconds;
                first = pair;
            }
        }
        return first;
    }

    /** Promise 47. */
    public int friday() {
        return work.isNone() ? NO_SUCH : shares.leastSeconds(work.told, NONE);
    }

    /** Promise 48. */
    public int given(int pile) {
        if (pile < 0 || pile >= work.told.piles) {
            return NO_SUCH;
        }
        return shares.leastSeconds(work.told, NONE) == NONE ? NONE : shares.pairOf(pile);
    }

    /** Promise 49. */
    public int helps(int pair) {
        if (!isPair(pair)) {
            return NO_SUCH;
        }
        return shares.leastSeconds(work.told, NONE) - shares.leastSeconds(work.told, pair);
    }

    /** Promise 50. */
    public int drawn(int seed, int slot, int what) {
        int wrong = isSeed(seed) && isView(what) ? wrongRow(slot, work.told.calls) : NO_SUCH;
        if (wrong != 0) {
            return noStateFor(wrong);
        }
        trial.draw(work, rows[slot], seed);
        return viewOf(trial.state, trial.seconds, what);
    }

    /** Promise 51. */
    public int slipped(int seed, int slot) {
        int wrong = isSeed(seed) ? wrongRow(slot, work.told.calls) : NO_SUCH;
        if (wrong != 0) {
            return wrong;
        }
        trial.draw(work, rows[slot], seed);
        return trial.slips;
    }

    /** Promise 52. */
    public int years(int seed, int n, int slot) {
        int wrong = isSeed(seed) && n >= 1 && n <= 20 ? wrongRow(slot, work.told.calls) : NO_SUCH;
        if (wrong != 0) {
            return wrong;
        }
        int good = 0;
        for (int year = 0; year < n; year++) {
            trial.draw(work, rows[slot], seed + year);
            if (trial.slips == 0) {
                good++;
            }
        }
        return good;
    }

    /** Promise 53. */
    public int count(int what) {
        switch (what) {
            case 0: return work.told.calls;
            case 1: return work.told.pairs;
            case 2: return work.told.piles;
            case 3: return work.told.space;
            case 4: return work.told.arms;
            case 5: return work.told.press;
            case 6: return work.size;
            case 7: return work.told.wish.isMade() ? 1 : 0;
            case 8: return work.told.lines;
            case 9: return tape.size;
            case 10: return slotsHeld();
            default: return NONE;
        }
    }

    /** Promise 54. */
    public int image(int k) {
        if (!isImage(k)) {
            return NO_SUCH;
        }
        images[k].copy(work);
        images[k].kept = true;
        return 0;
    }

    /** Promise 55. */
    public int back(int k) {
        if (!isImage(k)) {
            return NO_SUCH;
        }
        if (!images[k].kept) {
            return HAS_NOTHING;
        }
        work.copy(images[k]);
        return 0;
    }

    /** Promise 56. */
    public int row(int slot, int width, int n) {
        if (!isSlot(slot) || width < 0 || width >= WIDTHS || n > ROW_MOST) {
            return NO_SUCH;
        }
        if (n < 0) {
            return BELOW_ZERO;
        }
        rows[slot].make(width, n);
        return 0;
    }

    /** Promise 57. */
    public int write(int slot, int i, long v) {
        if (!isSlot(slot)) {
            return NO_SUCH;
        }
        Row row = rows[slot];
        if (!row.held) {
            return HAS_NOTHING;
        }
        if (i < 0 || i >= row.size) {
            return NO_NUMBER;
        }
        row.put(i, v);
        return 0;
    }

    /** Promise 58. */
    public int paste(int slot, int i, int to, int k, int n) {
        if (!isSlot(slot) || !isSlot(to)) {
            return NO_SUCH;
        }
        Row from = rows[slot];
        Row into = rows[to];
        if (!from.held || !into.held) {
            return HAS_NOTHING;
        }
        if (from.width != into.width) {
            return OTHER_WIDTH;
        }
        if (!from.hasRun(i, n) || !into.hasRun(k, n)) {
            return NO_NUMBER;
        }
        System.arraycopy(from.numbers, i, into.numbers, k, n);
        return 0;
    }

    private static boolean isMove(int move) {
        return move >= 0 && move < MOVES;
    }

    private static boolean isSize(int n) {
        return n >= 1 && n <= SIZES;
    }

    private static boolean isSlot(int slot) {
        return slot >= 0 && slot < SLOTS;
    }

    private static boolean isImage(int k) {
        return k >= 0 && k < IMAGES;
    }

    private static boolean isPart(int what) {
        return what == 0 || what == 1;
    }

    private static boolean isView(int what) {
        return what >= 0 && what <= 7;
    }

    private static boolean isSeed(int seed) {
        return seed >= 0 && seed <= HIGHEST_SEED;
    }

    private static boolean isWaysLength(int n) {
        return n >= 0 && n <= Search.LONGEST_WAY;
    }

    private boolean isCall(int call) {
        return call >= 0 && call < work.told.calls;
    }

    private boolean isPair(int pair) {
        return pair >= 0 && pair < work.told.pairs;
    }

    private boolean hasWish() {
        return work.told.wish.isMade();
    }

    private int viewOf(int state, int seconds, int what) {
        switch (what) {
            case 0: return Sheet.longOf(state);
            case 1: return Sheet.wideOf(state);
            case 2: return Sheet.hemOf(state);
            case 3: return Sheet.faceOf(state);
            case 4: return Sheet.twistOf(state);
            case 5: return work.told.layersOf(state);
            case 6: return work.told.thicknessOf(state);
            case 7: return seconds;
            default: return NO_STATE;
        }
    }

    private static int noStateFor(int wrong) {
        return wrong == HAS_NOTHING ? NO_STATE_ROW : NO_STATE;
    }

    /** What is wrong with a SLOT whose numbers must be below a bound; 0: nothing. */
    private int wrongRow(int slot, int bound) {
        if (work.isNone() || !isSlot(slot)) {
            return NO_SUCH;
        }
        if (!rows[slot].held) {
            return HAS_NOTHING;
        }
        return rows[slot].isBelow(bound) ? 0 : NO_SUCH;
    }

    private int slotsHeld() {
        int held = 0;
        for (int slot = 0; slot < SLOTS; slot++) {
            if (rows[slot].held) {
                held++;
            }
        }
        return held;
    }

    private void exploreAhead() {
        search.explore(work.state, ALL_MOVES, work.told.space, ROOMS);
    }

    private void exploreAlone() {
        search.explore(work.state, MOVES_ALONE, ROOMS, work.told.arms);
    }

    private void exploreFromFirst() {
        search.explore(work.told.firstState(), ALL_MOVES, work.told.space, ROOMS);
    }

    private int fewestIn(int space) {
        search.explore(work.state, ALL_MOVES, space, ROOMS);
        return search.depthOf(search.firstWished(work.told.wish));
    }

    /**
     * The least room in which so many MOVES do. More room never takes a MOVE away,
     * so the rooms that are too small are those up to one of them.
     */
    private int leastRoomFor(int moves) {
        int tooSmall = 0;
        for (int more = 32; more > 0; more /= 2) {
            int space = tooSmall + more;
            if (space <= ROOMS) {
                int needs = fewestIn(space);
                if (needs == NONE || needs > moves) {
                    tooSmall = space;
                }
            }
        }
        return tooSmall + 1;
    }

    /** By a set of CALLS (bits). A TWIST never helps: it must be undone before any other MOVE. */
    private int fewestByCalls(int set) {
        int allowed = 1 << UNTWIST;
        for (int call = 0; call < work.told.calls; call++) {
            int act = work.told.actOf(call);
            if ((set >> call & 1) == 1 && isMove(act)) {
                allowed |= 1 << act;
            }
        }
        search.explore(work.state, allowed, work.told.space, ROOMS);
        return search.depthOf(search.firstWished(work.told.wish));
    }

    private int fewestUnlikeCalls() {
        int sets = 1 << work.told.calls;
        for (int size = 0; size <= work.told.calls; size++) {
            for (int set = 0; set < sets; set++) {
                if (Integer.bitCount(set) == size && fewestByCalls(set) != NONE) {
                    return set;
                }
            }
        }
        return NONE;
    }

    /** Eight factors of a hundredth are what a long holds for sure. */
    private long chanceOf(Row row, int what) {
        int hers = 0;
        int his = 0;
        for (int i = 0; i < row.size; i++) {
            int call = (int) row.at(i);
            hers += Linen.canSlip(work.told.herAct(call)) ? 1 : 0;
            his += Linen.canSlip(work.told.hisAct(call)) ? 1 : 0;
        }
        if (hers + his > 8) {
            return NONE;
        }
        long above = power(HUNDRED - work.told.herSlips, hers) * power(HUNDRED - work.told.hisSlips, his);
        return partOf(above, power(HUNDRED, hers + his), what);
    }

    private static long power(long base, int times) {
        long product = 1;
        for (int i = 0; i < times; i++) {
            product *= base;
        }
        return product;
    }

    /** A fraction's part in lowest terms, above (what 0) or below (1). */
    private static long partOf(long above, long below, int what) {
        long common = commonOf(above, below);
        if (common <= 0) {
            return 0;
        }
        return what == 0 ? above / common : below / common;
    }

    private static long commonOf(long a, long b) {
        long high = a;
        long low = b;
        for (int i = 0; i < 200 && low != 0; i++) {
            long rest = high % low;
            high = low;
            low = rest;
        }
        return high;
    }

    /** The bytes that came, and how they are read as LINEN. */
    private static final class Tape {
        static final int MOST = 1000;
        private static final int AT_ONCE = 20;
        private static final int TOO_MUCH = 1_000_000;

        private static final int END = 0;
        private static final int WORD = 1;
        private static final int NUMBER = 2;
        private static final int SIGN = 3;
        private static final int NO_TOKEN = 4;

        private static final int CANT_STAND = 1;
        private static final int OUT_OF_BOUNDS = 2;
        private static final int TOO_MANY = 3;

        private static final String ACTS = "top bottom walk stay";
        private static final String FACINGS = "front back either";
        private static final String HEMMINGS = "top bottom left right in any";

        final byte[] bytes = new byte[MOST];
        int size;
        int fault;
        int faultPlace = NONE;

        private int start;
        private int behind;
        private int kind;

        boolean hasSpace() {
            return size + AT_ONCE <= MOST;
        }

        void add(int four) {
            for (int shift = 24; shift >= 0; shift -= 8) {
                if (size < MOST) {
                    bytes[size] = (byte) (four >> shift);
                    size++;
                }
            }
        }

        void begin() {
            fault = 0;
            faultPlace = NONE;
            behind = 0;
            advance();
        }

        boolean goesOn() {
            return fault == 0 && kind != END;
        }

        void endLine(Linen told) {
            if (kind == SIGN) {
                advance();
                told.lines++;
            } else {
                fail(CANT_STAND, start);
            }
        }

        void readSheet(Linen told) {
            expect("linen");
            expect("long");
            told.longAtFirst = number(1, SIZES);
            expect("wide");
            told.wideAtFirst = number(1, SIZES);
            expect("thick");
            told.thick = number(1, 9);
            expect("room");
            told.space = number(1, ROOMS);
            expect("arms");
            told.arms = number(1, ROOMS);
        }

        void readLine(Linen told) {
            int place = start;
            int moving = take("halve third meet turn quarter untwist");
            if (moving >= 0 && moving < told.takes.length) {
                expect("takes");
                told.takes[moving] = number(1, 99);
                return;
            }
            switch (take("call slips wish press pair pile")) {
                case 0: readCall(told, place); break;
                case 1: readSlips(told); break;
                case 2: readWish(told); break;
                case 3: told.press = number(1, MOST_PRESS); break;
                case 4: readPair(told, place); break;
                case 5: readPile(told, place); break;
                default: fail(CANT_STAND, place);
            }
        }

        private void readCall(Linen told, int place) {
            if (told.calls >= MOST_CALLS) {
                fail(TOO_MANY, place);
                return;
            }
            expect("her");
            told.her[told.calls] = choose(ACTS);
            expect("his");
            told.his[told.calls] = choose(ACTS);
            told.calls++;
        }

        private void readSlips(Linen told) {
            expect("her");
            told.herSlips = number(0, 50);
            expect("his");
            told.hisSlips = number(0, 50);
        }

        private void readWish(Linen told) {
            expect("long");
            told.wish.longOne = number(1, SIZES);
            expect("wide");
            told.wish.wideOne = number(1, SIZES);
            told.wish.face = choose(FACINGS);
            told.wish.hem = choose(HEMMINGS);
        }

        private void readPair(Linen told, int place) {
            if (told.pairs >= MOST_PAIRS) {
                fail(TOO_MANY, place);
                return;
            }
            told.skill[told.pairs] = number(1, 99);
            expect("learns");
            told.learns[told.pairs] = number(0, 999);
            told.pairs++;
        }

        private void readPile(Linen told, int place) {
            if (told.piles >= MOST_PILES) {
                fail(TOO_MANY, place);
                return;
            }
            told.sheets[told.piles] = number(1, MOST_SHEETS);
            told.piles++;
        }

        private void fail(int code, int place) {
            if (fault == 0) {
                fault = code;
                faultPlace = place;
            }
        }

        private void expect(String word) {
            if (take(word) == NONE) {
                fail(CANT_STAND, start);
            }
        }

        private int choose(String words) {
            int chosen = take(words);
            if (chosen == NONE) {
                fail(CANT_STAND, start);
                return 0;
            }
            return chosen;
        }

        /** The number that stands here; the lower bound where there is a FAULT. */
        private int number(int low, int high) {
            if (kind != NUMBER) {
                fail(CANT_STAND, start);
                return low;
            }
            int value = 0;
            for (int i = start; i < behind && i < MOST; i++) {
                value = Math.min(TOO_MUCH, value * 10 + bytes[i] - '0');
            }
            if (value < low || value > high) {
                fail(OUT_OF_BOUNDS, start);
                return low;
            }
            advance();
            return value;
        }

        /** Goes on if one of the words stands here: which of them, else NONE. */
        private int take(String words) {
            int which = 0;
            int from = 0;
            for (int i = 0; i <= words.length(); i++) {
                if (i == words.length() || words.charAt(i) == ' ') {
                    if (stands(words, from, i)) {
                        advance();
                        return which;
                    }
                    which++;
                    from = i + 1;
                }
            }
            return NONE;
        }

        private boolean stands(String words, int from, int to) {
            if (fault != 0 || kind != WORD || to - from != behind - start) {
                return false;
            }
            for (int i = from; i < to; i++) {
                if (words.charAt(i) != bytes[start + i - from]) {
                    return false;
                }
            }
            return true;
        }

        private void advance() {
            start = behind;
            while (start < size && isBlank(bytes[start])) {
                start++;
            }
            kind = start < size ? kindOf(bytes[start]) : END;
            behind = kind == END ? start : start + 1;
            while (behind < size && (kind == WORD || kind == NUMBER) && kindOf(bytes[behind]) == kind) {
                behind++;
            }
        }

        private static boolean isBlank(int sign) {
            return sign == 32 || sign == 10;
        }

        private static int kindOf(int sign) {
            if (sign >= 'a' && sign <= 'z') {
                return WORD;
            }
            if (sign >= '0' && sign <= '9') {
                return NUMBER;
            }
            return sign == ';' ? SIGN : NO_TOKEN;
        }
    }

    /** What a LINEN tells; there is none where it has no lines. */
    private static final class Linen {
        private static final int USUAL = 5;
        private static final int ACT_KINDS = 4;

        /** By her ACT, then by his: top, bottom, walk, stay. */
        private static final int[] ACT_OF = {
            TOP, TWIST_MORE, NOTHING, NOTHING,
            TWIST_LESS, BOTTOM, NOTHING, NOTHING,
            NOTHING, NOTHING, BOTH, HERS,
            NOTHING, NOTHING, HIS, NOTHING,
        };

        /** Which of takes a MOVE, a TWIST counts by. */
        private static final int[] MOVING_OF = {0, 0, 1, 2, 2, 2, 3, 3, 4, 5, 0, 0};

        int lines;
        int longAtFirst;
        int wideAtFirst;
        int thick;
        int space;
        int arms;
        int calls;
        int herSlips;
        int hisSlips;
        int press;
        int pairs;
        int piles;
        final Wish wish = new Wish();
        final int[] takes = new int[6];
        final int[] her = new int[MOST_CALLS];
        final int[] his = new int[MOST_CALLS];
        final int[] skill = new int[MOST_PAIRS];
        final int[] learns = new int[MOST_PAIRS];
        final int[] sheets = new int[MOST_PILES];

        void clear() {
            lines = 0;
            longAtFirst = 0;
            wideAtFirst = 0;
            thick = 0;
            space = 0;
            arms = 0;
            calls = 0;
            herSlips = 0;
            hisSlips = 0;
            wish.longOne = 0;
            press = 0;
            pairs = 0;
            piles = 0;
            Arrays.fill(takes, USUAL);
        }

        void copy(Linen from) {
            lines = from.lines;
            longAtFirst = from.longAtFirst;
            wideAtFirst = from.wideAtFirst;
            thick = from.thick;
            space = from.space;
            arms = from.arms;
            calls = from.calls;
            herSlips = from.herSlips;
            hisSlips = from.hisSlips;
            wish.copy(from.wish);
            press = from.press;
            pairs = from.pairs;
            piles = from.piles;
            copyAll(from.takes, takes);
            copyAll(from.her, her);
            copyAll(from.his, his);
            copyAll(from.skill, skill);
            copyAll(from.learns, learns);
            copyAll(from.sheets, sheets);
        }

        private static void copyAll(int[] from, int[] to) {
            System.arraycopy(from, 0, to, 0, Math.min(from.length, to.length));
        }

        int firstState() {
            return Sheet.pack(longAtFirst, wideAtFirst, 0, 0, 0);
        }

        int layersOf(int state) {
            int area = Sheet.longOf(state) * Sheet.wideOf(state);
            return area <= 0 ? 0 : longAtFirst * wideAtFirst / area;
        }

        int thicknessOf(int state) {
            return layersOf(state) * thick;
        }

        int secondsOf(int act) {
            if (act < 0 || act >= MOVING_OF.length) {
                return 0;
            }
            return takes[MOVING_OF[act]];
        }

        int herAct(int call) {
            return call >= 0 && call < her.length ? her[call] : NONE;
        }

        int hisAct(int call) {
            return call >= 0 && call < his.length ? his[call] : NONE;
        }

        int actOf(int call) {
            return actOfBoth(herAct(call), hisAct(call));
        }

        static int actOfBoth(int hers, int his) {
            if (hers < 0 || hers >= ACT_KINDS || his < 0 || his >= ACT_KINDS) {
                return NOTHING;
            }
            return ACT_OF[hers * ACT_KINDS + his];
        }

        boolean isToldBefore(int call) {
            for (int other = 0; other < call; other++) {
                if (herAct(other) == herAct(call) && hisAct(other) == hisAct(call)) {
                    return true;
                }
            }
            return false;
        }

        static boolean canSlip(int act) {
            return act == TOP || act == BOTTOM;
        }

        int rightOfTenThousand(int call) {
            int hers = canSlip(herAct(call)) ? HUNDRED - herSlips : HUNDRED;
            int theOther = canSlip(hisAct(call)) ? HUNDRED - hisSlips : HUNDRED;
            return hers * theOther;
        }

        int twistsOfTenThousand(int call) {
            if (!canSlip(herAct(call)) || !canSlip(hisAct(call))) {
                return 0;
            }
            int oneSlips = herSlips * (HUNDRED - hisSlips) + hisSlips * (HUNDRED - herSlips);
            return herAct(call) == hisAct(call) ? oneSlips : HUNDRED * HUNDRED - oneSlips;
        }

        int secondsForSheet(int pair, int sheet) {
            if (pair < 0 || pair >= skill.length || sheet < 0 || sheet > LEARNED) {
                return 0;
            }
            return skill[pair] + learns[pair] / (sheet + 1);
        }

        int secondsForSheets(int pair, int n) {
            int seconds = 0;
            for (int sheet = 0; sheet < n; sheet++) {
                seconds += secondsForSheet(pair, sheet);
            }
            return seconds;
        }
    }

    /** The wished package. */
    private static final class Wish {
        private static final int ANY_FACE = 2;
        private static final int ANY_HEM = 5;

        int longOne;
        int wideOne;
        int face;
        int hem;

        boolean isMade() {
            return longOne > 0;
        }

        boolean isMetBy(int state) {
            return Sheet.longOf(state) == longOne
                && Sheet.wideOf(state) == wideOne
                && Sheet.twistOf(state) == 0
                && (face == ANY_FACE || Sheet.faceOf(state) == face)
                && (hem == ANY_HEM || Sheet.hemOf(state) == hem);
        }

        void copy(Wish from) {
            longOne = from.longOne;
            wideOne = from.wideOne;
            face = from.face;
            hem = from.hem;
        }
    }

    /** The STATE of a sheet in one number, and what MOVES and TWISTS make of it. */
    private static final class Sheet {
        private static final int HEMS = 5;
        private static final int MOST_TWIST = 2;

        /** By the MOVE, then by the HEM: top, bottom, left, right, in. */
        private static final int[] HEM_BEHIND = {
            1, 1, 2, 3, 4,
            0, 0, 2, 3, 4,
            4, 4, 2, 3, 4,
            0, 1, 3, 3, 4,
            0, 1, 2, 2, 4,
            0, 1, 4, 4, 4,
            1, 0, 2, 3, 4,
            1, 0, 3, 2, 4,
            3, 2, 0, 1, 4,
        };

        /** The MOVES by which FACE changes, as bits. */
        private static final int FACE_CHANGES = 0b1101101;

        static int pack(int longer, int wider, int hem, int face, int twist) {
            return longer | wider << 6 | hem << 12 | face << 15 | twist + MOST_TWIST << 16;
        }

        static int longOf(int state) {
            return state & 63;
        }

        static int wideOf(int state) {
            return state >> 6 & 63;
        }

        static int hemOf(int state) {
            return state >> 12 & 7;
        }

        static int faceOf(int state) {
            return state >> 15 & 1;
        }

        static int twistOf(int state) {
            return (state >> 16 & 7) - MOST_TWIST;
        }

        static boolean possible(int state, int act, int space) {
            int twist = twistOf(state);
            switch (act) {
                case NOTHING: return true;
                case UNTWIST: return twist != 0;
                case QUARTER: return twist == 0 && wideOf(state) <= space;
                default: break;
            }
            int longer = longOf(state);
            if (longer > space || !divides(longer, wideOf(state), act)) {
                return false;
            }
            switch (act) {
                case TWIST_MORE: return twist < MOST_TWIST;
                case TWIST_LESS: return twist > -MOST_TWIST;
                default: return twist == 0;
            }
        }

        private static boolean divides(int longer, int wider, int act) {
            switch (act) {
                case TOP:
                case BOTTOM:
                case TWIST_MORE:
                case TWIST_LESS: return wider % 2 == 0;
                case THIRD: return wider % 3 == 0;
                case HERS:
                case HIS:
                case BOTH: return longer % 2 == 0;
                default: return true;
            }
        }

        static int folded(int state, int act) {
            int longer = longOf(state);
            int wider = wideOf(state);
            int twist = twistOf(state);
            switch (act) {
                case TOP:
                case BOTTOM: wider /= 2; break;
                case THIRD: wider /= 3; break;
                case HERS:
                case HIS:
                case BOTH: longer /= 2; break;
                case QUARTER: longer = wideOf(state); wider = longOf(state); break;
                case UNTWIST: twist += twist > 0 ? -1 : 1; break;
                case TWIST_MORE: twist++; break;
                case TWIST_LESS: twist--; break;
                default: break;
            }
            int face = (FACE_CHANGES >> act & 1) ^ faceOf(state);
            return pack(longer, wider, hemBehind(hemOf(state), act), face, twist);
        }

        private static int hemBehind(int hem, int act) {
            if (act < 0 || act > QUARTER || hem >= HEMS) {
                return hem;
            }
            return HEM_BEHIND[act * HEMS + hem];
        }
    }

    /** A LINEN with its STATE and what was done. */
    private static final class Work {
        Linen told = new Linen();
        final int[] acts = new int[MOST_DONE];
        int size;
        int state;
        int seconds;
        boolean kept;

        boolean isNone() {
            return told.lines == 0;
        }

        void begin() {
            size = 0;
            state = told.firstState();
            seconds = 0;
        }

        boolean doAct(int act) {
            if (size >= MOST_DONE || !Sheet.possible(state, act, told.space)) {
                return false;
            }
            acts[size] = act;
            size++;
            state = Sheet.folded(state, act);
            seconds += told.secondsOf(act);
            return true;
        }

        int doneAt(int i) {
            return i >= 0 && i < size && i < MOST_DONE ? acts[i] : NONE;
        }

        /** Folds lose what was there before, so what is left is done anew. */
        void takeBackTo(int left) {
            begin();
            for (int i = 0; i < left && i < MOST_DONE; i++) {
                doAct(acts[i]);
            }
        }

        void copy(Work from) {
            told.copy(from.told);
            System.arraycopy(from.acts, 0, acts, 0, MOST_DONE);
            size = from.size;
            state = from.state;
            seconds = from.seconds;
        }
    }

    /** A SLOT's row of numbers. */
    private static final class Row {
        final long[] numbers = new long[ROW_MOST];
        boolean held;
        int width;
        int size;

        void make(int newWidth, int n) {
            held = true;
            width = newWidth;
            size = Math.max(0, Math.min(n, ROW_MOST));
            Arrays.fill(numbers, 0);
        }

        void put(int i, long v) {
            if (i >= 0 && i < size) {
                numbers[i] = cut(v);
            }
        }

        long at(int i) {
            return i >= 0 && i < size ? numbers[i] : 0;
        }

        private long cut(long v) {
            switch (width) {
                case 0: return (byte) v;
                case 1: return (short) v;
                case 2: return (int) v;
                default: return v;
            }
        }

        boolean hasBelowZero() {
            for (int i = 0; i < size; i++) {
                if (at(i) < 0) {
                    return true;
                }
            }
            return false;
        }

        boolean isBelow(int bound) {
            for (int i = 0; i < size; i++) {
                if (at(i) < 0 || at(i) >= bound) {
                    return false;
                }
            }
            return true;
        }

        boolean hasRun(int from, int n) {
            return from >= 0 && n >= 0 && n <= size && from <= size - n;
        }
    }

    /** All STATES that can be got from one by some MOVES, nearest first. */
    private static final class Search {
        static final int LONGEST_WAY = 12;

        /** 48 by 32 has the most STATES, 630; two more may be twisted. */
        private static final int MOST = 640;
        /** 36 by 48 has the most packages. */
        private static final int MOST_PACKAGES = 144;
        private static final int LOOKS = 10;
        private static final int FAR = 1_000_000;

        /** By LONG and WIDE: the number of the package among those found, and 1; 0: not found. */
        private final int[] found = new int[SIZES * SIZES];
        /** By the package's number, HEM and FACE: where a STATE stands in states, and 1; 0: nowhere. */
        private final int[] places = new int[MOST_PACKAGES * LOOKS];
        private final int[] states = new int[MOST];
        private final int[] nexts = new int[MOST * MOVES];
        private final int[] parents = new int[MOST];
        private final int[] movesBy = new int[MOST];
        private final int[] depths = new int[MOST];
        private final int[] costs = new int[MOST];
        private final int[] lengths = new int[MOST];
        private final long[] counts = new long[MOST];
        private final long[] longer = new long[MOST];
        private int allowed;
        private int space;
        private int arms;
        int size;
        int packages;

        /** The last search stays, so that the same one need not be made again. */
        void explore(int start, int newAllowed, int newSpace, int newArms) {
            if (size > 0 && start == states[0] && newAllowed == allowed && newSpace == space && newArms == arms) {
                return;
            }
            forget();
            allowed = newAllowed;
            space = newSpace;
            arms = newArms;
            placeOf(start, NONE, NONE);
            for (int i = 0; i < size && i < MOST; i++) {
                expand(i);
            }
        }

        private void forget() {
            for (int i = 0; i < size && i < MOST; i++) {
                int cell = cellOf(states[i]);
                if (cell != NONE) {
                    found[cell] = 0;
                }
            }
            Arrays.fill(places, 0);
            size = 0;
            packages = 0;
        }

        /** MOVES are tried in their order: so the first way to a STATE is the least row. */
        private void expand(int i) {
            int state = states[i];
            boolean inArms = Sheet.longOf(state) <= arms;
            for (int move = 0; move < MOVES; move++) {
                boolean leads = (allowed >> move & 1) == 1
                    && (move > THIRD || inArms)
                    && Sheet.possible(state, move, space);
                nexts[i * MOVES + move] = leads ? placeOf(Sheet.folded(state, move), i, move) : NONE;
            }
        }

        private int placeOf(int state, int parent, int move) {
            int spot = spotOf(state, cellOf(state));
            if (spot != NONE && places[spot] > 0) {
                return places[spot] - 1;
            }
            if (size >= MOST) {
                return NONE;
            }
            int place = size;
            size++;
            states[place] = state;
            parents[place] = parent;
            movesBy[place] = move;
            depths[place] = parent >= 0 && parent < place ? depths[parent] + 1 : 0;
            if (spot != NONE) {
                places[spot] = place + 1;
            }
            return place;
        }

        /** Twisted STATES need no spot: each of them is come to but once. */
        private int spotOf(int state, int cell) {
            int look = Sheet.hemOf(state) * 2 + Sheet.faceOf(state);
            if (Sheet.twistOf(state) != 0 || cell < 0 || cell >= found.length || look >= LOOKS) {
                return NONE;
            }
            if (found[cell] == 0 && packages < MOST_PACKAGES) {
                packages++;
                found[cell] = packages;
            }
            int spot = (found[cell] - 1) * LOOKS + look;
            return spot >= 0 && spot < places.length ? spot : NONE;
        }

        private static int cellOf(int state) {
            int longOne = Sheet.longOf(state);
            int wideOne = Sheet.wideOf(state);
            if (longOne < 1 || longOne > SIZES || wideOne < 1 || wideOne > SIZES) {
                return NONE;
            }
            return (longOne - 1) * SIZES + wideOne - 1;
        }

        int stateAt(int i) {
            return i >= 0 && i < size && i < MOST ? states[i] : 0;
        }

        int firstWished(Wish wish) {
            for (int i = 0; i < size && i < MOST; i++) {
                if (wish.isMetBy(states[i])) {
                    return i;
                }
            }
            return NONE;
        }

        int firstSized(int longOne, int wideOne) {
            for (int i = 0; i < size && i < MOST; i++) {
                int state = states[i];
                if (Sheet.longOf(state) == longOne && Sheet.wideOf(state) == wideOne && Sheet.twistOf(state) == 0) {
                    return i;
                }
            }
            return NONE;
        }

        int depthOf(int place) {
            return place >= 0 && place < size && place < MOST ? depths[place] : NONE;
        }

        int within(int depth) {
            int near = 0;
            for (int i = 0; i < size && i < MOST; i++) {
                if (depths[i] <= depth) {
                    near++;
                }
            }
            return near;
        }

        int moveTowards(int goal, int i) {
            int depth = depthOf(goal);
            if (i < 0 || i >= depth) {
                return NONE;
            }
            int place = goal;
            for (int left = depth - 1; left > i && place >= 0 && place < MOST; left--) {
                place = parents[place];
            }
            return place >= 0 && place < MOST ? movesBy[place] : NONE;
        }

        private int nextOf(int place, int move) {
            int at = place * MOVES + move;
            return at >= 0 && at < nexts.length ? nexts[at] : NONE;
        }

        int leastSeconds(Linen told) {
            for (int i = 0; i < size && i < MOST; i++) {
                costs[i] = told.wish.isMetBy(states[i]) ? 0 : FAR;
            }
            boolean changed = true;
            for (int pass = 0; pass < MOST && changed; pass++) {
                changed = false;
                for (int i = Math.min(size, MOST) - 1; i >= 0; i--) {
                    int cost = cheapest(told, i);
                    if (cost < costs[i]) {
                        costs[i] = cost;
                        changed = true;
                    }
                }
            }
            return size == 0 || costs[0] >= FAR ? NONE : costs[0];
        }

        private int cheapest(Linen told, int place) {
            int least = costs[place];
            for (int move = 0; move < MOVES; move++) {
                int next = nextOf(place, move);
                if (next >= 0 && next < MOST) {
                    least = Math.min(least, costs[next] + told.secondsOf(move));
                }
            }
            return least;
        }

        int quickMove(Linen told, int i) {
            if (i < 0 || leastSeconds(told) == NONE) {
                return NONE;
            }
            int place = 0;
            for (int gone = 0; gone < MOST && place >= 0 && place < MOST; gone++) {
                int move = firstCheapMove(told, place);
                if (move == NONE || gone == i) {
                    return move;
                }
                place = nextOf(place, move);
            }
            return NONE;
        }

        private int firstCheapMove(Linen told, int place) {
            for (int move = 0; move < MOVES; move++) {
                int next = nextOf(place, move);
                if (next >= 0 && next < MOST && costs[next] + told.secondsOf(move) == costs[place]) {
                    return move;
                }
            }
            return NONE;
        }

        /** How many rows of n MOVES lead from the start to a goal; lengths has which lengths do, as bits. */
        long waysTo(int goal, int n) {
            for (int i = 0; i < size && i < MOST; i++) {
                boolean there = states[i] == goal;
                counts[i] = there ? 1 : 0;
                lengths[i] = there ? 1 : 0;
            }
            for (int length = 1; length <= n && length <= LONGEST_WAY; length++) {
                lengthen(length);
            }
            return size == 0 ? 0 : counts[0];
        }

        private void lengthen(int length) {
            for (int i = 0; i < size && i < MOST; i++) {
                longer[i] = 0;
                for (int move = 0; move < MOVES; move++) {
                    int next = nextOf(i, move);
                    if (next >= 0 && next < MOST) {
                        longer[i] += counts[next];
                    }
                }
                if (longer[i] > 0) {
                    lengths[i] |= 1 << length;
                }
            }
            System.arraycopy(longer, 0, counts, 0, MOST);
        }

        int wayMove(int goal, int n, int i) {
            if (i < 0 || i >= n || waysTo(goal, n) == 0) {
                return NONE;
            }
            int place = 0;
            for (int left = n - 1; left >= 0 && place >= 0 && place < MOST; left--) {
                int move = firstMoveIn(place, left);
                if (move == NONE || n - 1 - left == i) {
                    return move;
                }
                place = nextOf(place, move);
            }
            return NONE;
        }

        private int firstMoveIn(int place, int left) {
            for (int move = 0; move < MOVES; move++) {
                int next = nextOf(place, move);
                if (next >= 0 && next < MOST && (lengths[next] >> left & 1) == 1) {
                    return move;
                }
            }
            return NONE;
        }
    }

    /** What would come of a row of MOVES or CALLS, the work itself staying as it is. */
    private static final class Trial {
        private static final long FACTOR = 1103515245L;
        private static final long STEP = 12345L;
        private static final long MODULUS = 2147483648L;
        private static final long CUT = 65536L;

        int state;
        int seconds;
        int done;
        int slips;
        private long x;

        private void begin(Work work) {
            state = work.state;
            seconds = work.seconds;
            done = 0;
            slips = 0;
        }

        private boolean tryAct(Linen told, int act) {
            if (!Sheet.possible(state, act, told.space)) {
                return false;
            }
            state = Sheet.folded(state, act);
            seconds += told.secondsOf(act);
            done++;
            return true;
        }

        /** MOVES up to the first that can't be. */
        void follow(Work work, Row row) {
            begin(work);
            for (int i = 0; i < row.size; i++) {
                if (!tryAct(work.told, (int) row.at(i))) {
                    return;
                }
            }
        }

        /** CALLS as they are heard, those that can't be left out. */
        void draw(Work work, Row row, int seed) {
            begin(work);
            x = seed;
            for (int i = 0; i < row.size; i++) {
                int call = (int) row.at(i);
                int hers = heard(work.told.herAct(call), work.told.herSlips);
                int his = heard(work.told.hisAct(call), work.told.hisSlips);
                tryAct(work.told, Linen.actOfBoth(hers, his));
            }
        }

        private int heard(int act, int slipsOf) {
            if (!Linen.canSlip(act)) {
                return act;
            }
            x = (FACTOR * x + STEP) % MODULUS;
            if (x / CUT % HUNDRED >= slipsOf) {
                return act;
            }
            slips++;
            return act == TOP ? BOTTOM : TOP;
        }
    }

    /** Which PAIR folds which PILE so that the last is through soonest. */
    private static final class Shares {
        private static final int MOST_ALL = MOST_PILES * MOST_SHEETS + 1;
        private static final int PAIRS_AND_ONE = MOST_PAIRS + 1;

        private final int[] times = new int[PAIRS_AND_ONE * MOST_ALL];
        private final int[] loads = new int[PAIRS_AND_ONE];
        private final int[] pairsNow = new int[MOST_PILES];
        private final int[] pairsFirst = new int[MOST_PILES];
        private int pairs;
        private int least;

        /** With one PAIR more like another one, or NONE more. */
        int leastSeconds(Linen told, int another) {
            if (told.piles == 0) {
                return 0;
            }
            if (told.pairs == 0) {
                return NONE;
            }
            for (int pair = 0; pair < told.pairs; pair++) {
                fillTimes(told, pair, pair);
            }
            pairs = told.pairs;
            if (another != NONE) {
                fillTimes(told, pairs, another);
                pairs++;
            }
            Arrays.fill(loads, 0);
            least = HIGHEST;
            share(told, 0, 0);
            return least;
        }

        int pairOf(int pile) {
            return pile >= 0 && pile < MOST_PILES ? pairsFirst[pile] : NONE;
        }

        private void fillTimes(Linen told, int pair, int like) {
            if (pair < 0 || pair >= PAIRS_AND_ONE) {
                return;
            }
            int seconds = 0;
            for (int n = 0; n < MOST_ALL; n++) {
                times[pair * MOST_ALL + n] = seconds;
                seconds += told.secondsForSheet(like, n);
            }
        }

        /** PAIRS are tried in their order and only what is sooner strikes: so the least row stays. */
        private void share(Linen told, int pile, int latest) {
            if (pile >= told.piles || pile >= MOST_PILES) {
                least = latest;
                System.arraycopy(pairsNow, 0, pairsFirst, 0, MOST_PILES);
                return;
            }
            for (int pair = 0; pair < pairs && pair < PAIRS_AND_ONE; pair++) {
                loads[pair] += told.sheets[pile];
                int through = Math.max(latest, timeOf(pair));
                if (through < least) {
                    pairsNow[pile] = pair;
                    share(told, pile + 1, through);
                }
                loads[pair] -= told.sheets[pile];
            }
        }

        private int timeOf(int pair) {
            int load = loads[pair];
            return load >= 0 && load < MOST_ALL ? times[pair * MOST_ALL + load] : 0;
        }
    }

    /** What of a row of packages goes into the press. */
    private static final class Press {
        private final boolean[] heights = new boolean[MOST_PRESS + 1];
        private final long[] sorted = new long[ROW_MOST];

        int highest(Row row, int press) {
            int bound = Math.min(press, MOST_PRESS);
            for (int height = 0; height <= bound; height++) {
                heights[height] = height == 0;
            }
            for (int i = 0; i < row.size; i++) {
                if (row.at(i) <= bound) {
                    lay((int) row.at(i), bound);
                }
            }
            int high = 0;
            for (int height = 0; height <= bound; height++) {
                high = heights[height] ? height : high;
            }
            return high;
        }

        private void lay(int thickness, int bound) {
            for (int height = bound; height >= thickness && thickness > 0; height--) {
                heights[height] |= heights[height - thickness];
            }
        }

        /** The thinnest first are the most. */
        int mostOf(Row row, int press) {
            sort(row);
            long left = press;
            int in = 0;
            for (int i = 0; i < row.size && i < ROW_MOST && sorted[i] <= left; i++) {
                left -= sorted[i];
                in++;
            }
            return in;
        }

        private void sort(Row row) {
            for (int i = 0; i < row.size && i < ROW_MOST; i++) {
                int spot = i;
                while (spot > 0 && sorted[spot - 1] > row.at(i)) {
                    sorted[spot] = sorted[spot - 1];
                    spot--;
                }
                sorted[spot] = row.at(i);
            }
        }
    }
}
