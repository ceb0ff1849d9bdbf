import java.math.BigInteger;

/** The sentences of promises 36 to 52 that name an edge: chances, the press, PAIRS and PILES, CALLS drawn. */
public final class ReckonEdgesTest extends Sentences {
    private static final int HIGHEST_SEED = 2_000_000_000;
    private static final int[] NO_PART = {-1, 2, 3, LOW, HIGH};
    private static final int[] NO_SLOT = {-1, 4, 5, LOW, HIGH};
    private static final int[] NO_SEED = {-1, HIGHEST_SEED + 1, LOW, HIGH};
    private static final String FOUR = "call her top his top;call her top his stay;call her walk his bottom;call her walk his walk;";

    public static void main(String[] args) {
        rightCodes();
        twistsCodes();
        mendCodes();
        chanceEight();
        chanceCodes();
        chanceNothing();
        out();
        fits();
        packsHigh();
        packsMany();
        packsCodes();
        packsNothing();
        thin();
        thinCodes();
        learnCodes();
        skilled();
        skilledCodes();
        soonest();
        soonestCodes();
        fridayCodes();
        givenCodes();
        helps();
        helpsCodes();
        drawnSeeds();
        drawnLeftOut();
        drawnCodes();
        slipped();
        slippedCodes();
        years();
        yearsCodes();
        allSaid(36, 52);
        finish();
    }

    private static void noCalls(String what, Question last, Question ahead, Question behind) {
        SheetByTwo x = told(BASE + FOUR);
        due(what + " of CALL -1", ahead.of(x), -2);
        due(what + " of CALL 4 of four", behind.of(x), -2);
        due(what + " of CALL 3 of four", last.of(x) == -2 ? 1 : 0, 0);
        due(what + " of CALL 3 of none", last.of(told(BASE)), -2);
        withoutLinen(what, last);
    }

    private static void rightCodes() {
        said(36, "-2: there are none such.");
        for (int what = 0; what < 2; what++) {
            int of = what;
            noCalls("right()", x -> x.right(3, of), x -> x.right(-1, of), x -> x.right(4, of));
            for (int call : new int[] {5, 6, LOW, HIGH}) {
                due("right(" + call + ", " + what + ")", told(BASE + FOUR).right(call, what), -2);
            }
        }
        for (int what : NO_PART) {
            due("right(0, " + what + ")", told(BASE + FOUR).right(0, what), -2);
        }
        SheetByTwo x = told(BASE + FOUR + "slips her 50 his 50;");
        fraction("all but never", x.right(0, 0), x.right(0, 1), 1, 4);
        fraction("always", x.right(3, 0), x.right(3, 1), 1, 1);
        x = told(BASE + FOUR + "slips her 1 his 1;");
        fraction("nearly always", x.right(0, 0), x.right(0, 1), 9801, 10000);
    }

    private static void twistsCodes() {
        said(37, "-2 likewise.");
        for (int what = 0; what < 2; what++) {
            int of = what;
            noCalls("twists()", x -> x.twists(3, of), x -> x.twists(-1, of), x -> x.twists(4, of));
            for (int call : new int[] {5, 6, LOW, HIGH}) {
                due("twists(" + call + ", " + what + ")", told(BASE + FOUR).twists(call, what), -2);
            }
        }
        for (int what : NO_PART) {
            due("twists(0, " + what + ")", told(BASE + FOUR).twists(0, what), -2);
        }
        SheetByTwo x = told(BASE + FOUR + TWISTS);
        fraction("TOP without slips", x.twists(0, 0), x.twists(0, 1), 0, 1);
        fraction("a TWIST more without slips", x.twists(4, 0), x.twists(4, 1), 1, 1);
        fraction("a TWIST less without slips", x.twists(5, 0), x.twists(5, 1), 1, 1);
        x = told(BASE + FOUR + TWISTS + "slips her 50 his 50;");
        for (int call : new int[] {0, 4, 5}) {
            fraction("CALL " + call, x.twists(call, 0), x.twists(call, 1), 1, 2);
        }
        for (int call : new int[] {1, 2, 3}) {
            fraction("CALL " + call, x.twists(call, 0), x.twists(call, 1), 0, 1);
        }
    }

    private static void mendCodes() {
        said(38, "-2: there are none such, it is neither TOP nor BOTTOM.");
        for (int i = 0; i < 16; i++) {
            SheetByTwo x = told(BASE + "call her " + ACTS[i / 4] + " his " + ACTS[i % 4] + ";slips her 50 his 50;");
            boolean is = MEANS[i] <= 1;
            fraction("mend(0) of " + ACTS[i / 4] + ", " + ACTS[i % 4], x.mend(0, 0), x.mend(0, 1), is ? 15 : -2, is ? 1 : -2);
        }
        SheetByTwo x = told(BASE + FOUR);
        for (int call : new int[] {-1, 4, 5, 6, LOW, HIGH}) {
            fraction("mend(" + call + ")", x.mend(call, 0), x.mend(call, 1), -2, -2);
        }
        for (int what : NO_PART) {
            due("mend(0, " + what + ")", x.mend(0, what), -2);
            due("mend(1, " + what + ")", x.mend(1, what), -2);
        }
        due("mend(0, 0) of none", told(BASE).mend(0, 0), -2);
        withoutLinen("mend(0, 0)", y -> y.mend(0, 0));
        withoutLinen("mend(0, 1)", y -> y.mend(0, 1));
        x = told(BASE + FOUR + "halve takes 99;untwist takes 99;slips her 49 his 47;");
        int twisted = 49 * 53 + 51 * 47;
        long common = BigInteger.valueOf(99 * (10000 + twisted)).gcd(BigInteger.valueOf(10000 - twisted)).longValue();
        fraction("the highest", x.mend(0, 0), x.mend(0, 1), 99 * (10000 + twisted) / common, (10000 - twisted) / common);
    }

    private static void chanceIs(SheetByTwo x, String what, long above, long below, long... row) {
        fill(x, 0, 1, row);
        fraction(what, x.chance(0, 0), x.chance(0, 1), above, below);
    }

    private static void chanceEight() {
        said(39, "NONE: more than eight of what they tell (hers and his apart) are top, bottom");
        long ten16 = 10_000_000_000_000_000L;
        for (int slips : new int[] {0, 1, 3}) {
            SheetByTwo x = told(BASE + FOUR + "slips her " + slips + " his " + slips + ";");
            long above = slips == 0 ? 1 : BigInteger.valueOf(100 - slips).pow(8).longValueExact();
            long below = slips == 0 ? 1 : ten16;
            chanceIs(x, "four of two", above, below, 0, 0, 0, 0);
            chanceIs(x, "four of two and many of none", above, below, 3, 0, 3, 0, 3, 0, 3, 0, 3, 3, 3, 3, 3, 3);
            chanceIs(x, "eight of hers", above, below, 1, 1, 1, 1, 1, 1, 1, 1);
            chanceIs(x, "eight of his", above, below, 2, 2, 2, 2, 2, 2, 2, 2);
            chanceIs(x, "three of two and two of one", above, below, 0, 1, 0, 2, 0);
            chanceIs(x, "four of two and one of hers", NONE, NONE, 0, 0, 0, 0, 1);
            chanceIs(x, "four of two and one of his", NONE, NONE, 2, 0, 0, 0, 0);
            chanceIs(x, "nine of hers", NONE, NONE, 1, 1, 1, 1, 1, 1, 1, 1, 1);
            chanceIs(x, "nine of his", NONE, NONE, 2, 2, 2, 2, 2, 2, 2, 2, 2);
            chanceIs(x, "sixty of two", NONE, NONE, sixty(0));
            chanceIs(x, "sixty of none", 1, 1, sixty(3));
            chanceIs(x, "none at all", 1, 1);
        }
        SheetByTwo x = told(BASE + FOUR + "slips her 50 his 50;");
        chanceIs(x, "eight of a half", 1, 256, 0, 0, 0, 0);
        x = told(BASE + FOUR + "slips her 50 his 0;");
        chanceIs(x, "four of a half", 1, 16, 0, 0, 0, 0);
        x = told(BASE + FOUR + "slips her 0 his 1;");
        chanceIs(x, "four of 99", 96059601, 100000000, 0, 0, 0, 0);
    }

    private static void chanceCodes() {
        said(39, "-2: there is no such SLOT, what, no LINEN, a number is no CALL (asked last)");
        SheetByTwo x = told(BASE + FOUR);
        fill(x, 0, 0, 0);
        for (int what = 0; what < 2; what++) {
            for (int slot : NO_SLOT) {
                due("chance(" + slot + ", " + what + ")", x.chance(slot, what), -2);
            }
        }
        for (int what : NO_PART) {
            due("chance(0, " + what + ")", x.chance(0, what), -2);
            due("chance(1, " + what + ") of nothing", x.chance(1, what), -2);
        }
        for (long no : new long[] {-1, 4, 5, 6, HIGH, LOW, 1L << 32, 1L << 63, Long.MAX_VALUE}) {
            for (int at = 0; at < 3; at++) {
                fill(x, 2, 3, 3, 3, 3);
                x.write(2, at, no);
                due(no + " is no CALL", x.chance(2, 0), -2);
                due(no + " is no CALL", x.chance(2, 1), -2);
            }
        }
        for (int call = 0; call < 4; call++) {
            fill(x, 2, 3, call);
            due(call + " is a CALL", x.chance(2, 0), 1);
        }
        tell(x, BASE);
        due("no CALLS", x.chance(0, 0), -2);
        fill(x, 0, 0);
        due("no CALLS, none asked", x.chance(0, 0), 1);
        withoutLinen("chance(0, 0)", y -> y.chance(0, 0));
        withoutLinen("chance(0, 1)", y -> y.chance(0, 1));
        withoutLinen("chance(3, 0) of nothing", y -> y.chance(3, 0));
    }

    private static void chanceNothing() {
        said(39, "-6: it has nothing.");
        for (int slot = 0; slot < 4; slot++) {
            SheetByTwo x = told(BASE + FOUR);
            fraction("SLOT " + slot, x.chance(slot, 0), x.chance(slot, 1), -6, -6);
            x.row(slot, 0, 0);
            fraction("SLOT " + slot + " with a row of none", x.chance(slot, 0), x.chance(slot, 1), 1, 1);
        }
    }

    private static void out() {
        said(40, "-2: there is no such what, no LINEN.");
        for (int call = 0; call < 2; call++) {
            SheetByTwo x = told(BASE + TWISTS + "untwist takes 99;");
            for (int twist = 0; twist <= 2; twist++) {
                due("out(0) of " + twist, x.out(0), twist);
                due("out(1) of " + twist, x.out(1), 99 * twist);
                for (int what : NO_PART) {
                    due("out(" + what + ")", x.out(what), -2);
                }
                x.call(call);
            }
        }
        withoutLinen("out(0)", x -> x.out(0));
        withoutLinen("out(1)", x -> x.out(1));
    }

    private static void fits() {
        said(41, "NONE: there is no press; -2: there is no LINEN.");
        due("no press", told(BASE).fits(), NONE);
        withoutLinen("fits()", SheetByTwo::fits);
        String thick = "linen long 48 wide 48 thick 9 room 60 arms 1;press ";
        due("none goes in", told(thick + "8;").fits(), 0);
        due("one goes in", told(thick + "9;").fits(), 1);
        due("one and a part", told(thick + "17;").fits(), 1);
        due("two go in", told(thick + "18;").fits(), 2);
        SheetByTwo x = told(thick + "999;");
        due("at first", x.fits(), 111);
        folds(x, 0, 0, 0, 0, 2, 3, 8);
        due("too thick", x.state(6), 864);
        due("one goes in", x.fits(), 1);
        folds(x, 0, 0);
        due("none goes in", x.fits(), 0);
        tell(x, BASE);
        due("no press now", x.fits(), NONE);
    }

    private static void packsIs(String what, int press, int height, int count, long... row) {
        for (int width = 1; width < 4; width++) {
            SheetByTwo x = told(BASE + "press " + press + ";");
            fill(x, 3, width, row);
            due(what + " in " + press + ", how high", x.packs(3, 0), height);
            due(what + " in " + press + ", how many", x.packs(3, 1), count);
        }
    }

    private static void packsHigh() {
        said(42, "how high those of some of them that go in are at most (what 0)");
        packsIs("none", 1, 0, 0);
        packsIs("as high as the press", 10, 10, 1, 10);
        packsIs("one higher", 10, 0, 0, 11);
        packsIs("two as high as it", 10, 10, 2, 4, 6);
        packsIs("two higher", 10, 6, 1, 5, 6);
        packsIs("not the thickest", 10, 9, 2, 7, 5, 4);
        packsIs("each once", 10, 3, 1, 3);
        packsIs("each of two once", 10, 7, 2, 3, 4);
        packsIs("the highest press", 999, 999, 2, 500, 499);
        packsIs("the highest press and one more", 999, 500, 1, 500, 500);
        packsIs("sixty", 999, 984, 41, sixty(24));
        packsIs("sixty that go in", 999, 960, 60, sixty(16));
        packsIs("sixty, none of which does", 999, 0, 0, sixty(1000));
        packsIs("nothing thick", 5, 0, 60, sixty(0));
        SheetByTwo x = told(BASE + "press 10;");
        fill(x, 0, 0, 9, 1, 3, 5, 7);
        fill(x, 1, 0, 8, 4);
        fill(x, 2, 0);
        for (int times = 0; times < 2; times++) {
            due("a full press", x.packs(0, 0), 10);
            due("another row behind it", x.packs(1, 0), 8);
            due("none behind it", x.packs(2, 0), 0);
            due("one of two", x.packs(1, 1), 1);
            due("three of five", x.packs(0, 1), 3);
        }
    }

    private static void packsMany() {
        said(42, "how many go in at most (1).");
        packsIs("three of four", 10, 10, 3, 8, 1, 4, 5);
        packsIs("the thinnest, in no order", 10, 10, 4, 4, 3, 2, 1, 9, 9, 9);
        packsIs("all", 10, 10, 4, 1, 2, 3, 4);
        packsIs("all but one", 9, 9, 3, 1, 2, 3, 4);
        packsIs("one of none", 1, 1, 2, 0, 1, 1);
        SheetByTwo x = told(BASE + "press 999;");
        fill(x, 0, 3, Long.MAX_VALUE, Long.MAX_VALUE, 1L << 32, 7);
        due("very thick ones, how high", x.packs(0, 0), 7);
        due("very thick ones, how many", x.packs(0, 1), 1);
        fill(x, 0, 2, HIGH, HIGH, HIGH);
        due("very thick ones, how high", x.packs(0, 0), 0);
        due("very thick ones, how many", x.packs(0, 1), 0);
    }

    private static void packsCodes() {
        said(42, "NONE, -2 likewise (a number below 0, too, asked last), no such SLOT, what");
        SheetByTwo x = told(BASE);
        fill(x, 0, 0, 1, 2);
        due("no press, how high", x.packs(0, 0), NONE);
        due("no press, how many", x.packs(0, 1), NONE);
        for (int slot : NO_SLOT) {
            due("no press, SLOT " + slot, x.packs(slot, 0), -2);
        }
        for (int what : NO_PART) {
            due("no press, what " + what, x.packs(0, what), -2);
        }
        tell(x, ALL);
        for (int slot : NO_SLOT) {
            due("packs(" + slot + ", 0)", x.packs(slot, 0), -2);
            due("packs(" + slot + ", 1)", x.packs(slot, 1), -2);
        }
        for (int what : NO_PART) {
            due("packs(0, " + what + ")", x.packs(0, what), -2);
            due("packs(1, " + what + ") of nothing", x.packs(1, what), -2);
        }
        for (int at = 0; at < 3; at++) {
            for (long no : new long[] {-1, LOW, Long.MIN_VALUE}) {
                fill(x, 0, 3, 999, 0, 1);
                x.write(0, at, no);
                due("below 0 as number " + at + ", how high", x.packs(0, 0), -2);
                due("below 0 as number " + at + ", how many", x.packs(0, 1), -2);
            }
        }
        fill(x, 0, 0, 0);
        due("0 is not below 0", x.packs(0, 1), 1);
        withoutLinen("packs(0, 0)", y -> y.packs(0, 0));
        withoutLinen("packs(0, 1)", y -> y.packs(0, 1));
        withoutLinen("packs(3, 0) of nothing", y -> y.packs(3, 0));
    }

    private static void packsNothing() {
        said(42, "-6: it has nothing.");
        for (int slot = 0; slot < 4; slot++) {
            for (String text : new String[] {BASE, ALL}) {
                SheetByTwo x = told(text);
                fraction("SLOT " + slot, x.packs(slot, 0), x.packs(slot, 1), -6, -6);
            }
            SheetByTwo x = told(ALL);
            x.row(slot, 3, 0);
            fraction("SLOT " + slot + " with a row of none", x.packs(slot, 0), x.packs(slot, 1), 0, 0);
        }
    }

    private static void thin() {
        said(43, "By how much thinner at least a package must be than it is now so that one more of it goes in.");
        String[] sheets = {"linen long 48 wide 48 thick 9 room 60 arms 1;", "linen long 48 wide 48 thick 1 room 60 arms 1;"};
        for (int press = 1; press <= 999; press += press < 30 ? 1 : 97) {
            for (String sheet : sheets) {
                SheetByTwo x = told(sheet + "press " + press + ";");
                for (int move : new int[] {0, 2, 3, 4, 0, 5, 0}) {
                    int now = x.state(6);
                    int least = NONE;
                    for (int thinner = now - 1; thinner >= 1; thinner--) {
                        least = press / (now - thinner) > press / now ? thinner : least;
                    }
                    due("thin() of " + now + " for " + press, x.thin(), least);
                    folds(x, move);
                }
            }
        }
    }

    private static void thinCodes() {
        said(43, "NONE: there is no press, it would be nothing then; -2: there is no LINEN.");
        due("no press", told(BASE).thin(), NONE);
        SheetByTwo x = told(BASE + "press 999;");
        due("one thick", x.thin(), NONE);
        folds(x, 0);
        due("two thick", x.thin(), 1);
        due("none goes in, one thick would", told("linen long 1 wide 1 thick 9 room 1 arms 1;press 1;").thin(), 8);
        due("one goes in, two of none would", told("linen long 1 wide 1 thick 1 room 1 arms 1;press 1;").thin(), NONE);
        due("four of two go in, five of one would", told("linen long 1 wide 1 thick 2 room 1 arms 1;press 9;").thin(), 1);
        tell(x, BASE);
        folds(x, 0);
        due("no press now", x.thin(), NONE);
        withoutLinen("thin()", SheetByTwo::thin);
    }

    private static void learnCodes() {
        said(44, "SECONDS of a PAIR for n (0 .. 999) sheets. -2: there are none such.");
        SheetByTwo x = told(BASE + "pair 99 learns 999;pair 1 learns 0;pair 2 learns 3;");
        for (int pair = 0; pair < 3; pair++) {
            for (int n : new int[] {-1, 1000, 1001, LOW, HIGH}) {
                due("learn(" + pair + ", " + n + ")", x.learn(pair, n), -2);
            }
            due("learn(" + pair + ", 0)", x.learn(pair, 0), 0);
        }
        int all = 0;
        for (int n = 1; n <= 999; n++) {
            all += 99 + 999 / n;
            if (n < 4 || n > 996) {
                due("learn(0, " + n + ")", x.learn(0, n), all);
                due("learn(1, " + n + ")", x.learn(1, n), n);
            }
        }
        for (int pair : new int[] {-1, 3, 4, LOW, HIGH}) {
            due("learn(" + pair + ", 1)", x.learn(pair, 1), -2);
        }
        due("learn(3, 1) of four", told(BASE + "pair 7 learns 0;".repeat(4)).learn(3, 1), 7);
        due("learn(4, 1) of four", told(BASE + "pair 7 learns 0;".repeat(4)).learn(4, 1), -2);
        due("learn(0, 1) of none", told(BASE).learn(0, 1), -2);
        withoutLinen("learn(0, 0)", y -> y.learn(0, 0));
    }

    private static void skilled() {
        said(45, "The first sheet (from 0) that takes a PAIR no more than n seconds.");
        SheetByTwo x = told(BASE + "pair 7 learns 11;");
        int[] takes = {18, 12, 10, 9, 9, 8, 8, 8, 8, 8, 8, 7};
        for (int n = 7; n <= 20; n++) {
            int first = 0;
            while (takes[first] > n) {
                first++;
            }
            due("skilled(0, " + n + ")", x.skilled(0, n), first);
        }
        due("skilled(0, HIGH)", x.skilled(0, HIGH), 0);
    }

    private static void skilledCodes() {
        said(45, "NONE: none of the first 999; -2: there is none such.");
        SheetByTwo x = told(BASE + "pair 1 learns 998;pair 1 learns 999;pair 1 learns 997;pair 9 learns 0;");
        due("the 999th is the first", x.skilled(0, 1), 998);
        due("the 1000th would be", x.skilled(1, 1), NONE);
        due("the 998th is the first", x.skilled(2, 1), 997);
        due("two of the second", x.skilled(1, 2), 499);
        for (int n : new int[] {8, 0, -1, LOW}) {
            due("skilled(3, " + n + ")", x.skilled(3, n), NONE);
        }
        due("skilled(3, 9)", x.skilled(3, 9), 0);
        for (int pair : new int[] {-1, 4, 5, LOW, HIGH}) {
            due("skilled(" + pair + ", 9)", x.skilled(pair, 9), -2);
        }
        due("skilled(1, 9) of one", told(BASE + "pair 1 learns 1;").skilled(1, 9), -2);
        due("skilled(0, 9) of none", told(BASE).skilled(0, 9), -2);
        withoutLinen("skilled(0, 9)", y -> y.skilled(0, 9));
    }

    private static void soonest() {
        said(46, "The PAIR that is soonest through n (1 .. 999) sheets, the first of several.");
        SheetByTwo x = told(BASE + "pair 9 learns 2;pair 10 learns 1;pair 11 learns 0;pair 8 learns 999;");
        due("three alike of one", x.soonest(1), 0);
        for (int n = 2; n <= 999; n += 71) {
            int best = 0;
            for (int pair = 1; pair < 4; pair++) {
                best = x.learn(pair, n) < x.learn(best, n) ? pair : best;
            }
            due("soonest(" + n + ")", x.soonest(n), best);
        }
        x = told(BASE + "pair 9 learns 0;".repeat(4));
        due("four alike", x.soonest(999), 0);
        x = told(BASE + "pair 9 learns 0;".repeat(3) + "pair 8 learns 0;");
        due("the last of four", x.soonest(1), 3);
        x = told(BASE + "pair 9 learns 0;pair 8 learns 999;");
        for (int n = 990; n <= 999; n++) {
            due("two, soonest(" + n + ")", x.soonest(n), x.learn(0, n) <= x.learn(1, n) ? 0 : 1);
        }
    }

    private static void soonestCodes() {
        said(46, "NONE: there is no PAIR; -2: there is no such n, no LINEN.");
        due("no PAIR, one sheet", told(BASE).soonest(1), NONE);
        due("no PAIR, 999 sheets", told(BASE + "pile 9;").soonest(999), NONE);
        for (int n : new int[] {0, -1, 1000, 1001, LOW, HIGH}) {
            due("soonest(" + n + ")", told(ALL).soonest(n), -2);
            due("soonest(" + n + ") without PAIR", told(BASE).soonest(n), -2);
        }
        due("soonest(1)", told(ALL).soonest(1), 1);
        due("soonest(999)", told(ALL).soonest(999), 0);
        withoutLinen("soonest(1)", x -> x.soonest(1));
    }

    private static void fridayCodes() {
        said(47, "NONE: there is no PAIR, but a PILE; -2: there is no LINEN.");
        due("a PILE without PAIR", told(BASE + "pile 1;").friday(), NONE);
        due("six PILES without PAIR", told(BASE + "pile 60;".repeat(6)).friday(), NONE);
        due("neither", told(BASE).friday(), 0);
        due("a PAIR without PILE", told(BASE + "pair 9 learns 9;").friday(), 0);
        due("four PAIRS without PILE", told(BASE + "pair 9 learns 9;".repeat(4)).friday(), 0);
        due("one of each", told(BASE + "pair 9 learns 9;pile 1;").friday(), 18);
        SheetByTwo x = told(BASE + "pair 99 learns 999;" + "pile 60;".repeat(6));
        due("one PAIR, six full PILES", x.friday(), x.learn(0, 360));
        x = told(BASE + "pair 99 learns 999;".repeat(4) + "pile 60;".repeat(6));
        due("four PAIRS, six full PILES", x.friday(), x.learn(0, 120));
        withoutLinen("friday()", SheetByTwo::friday);
    }

    private static void givenCodes() {
        said(48, "The PAIR of a PILE by the first such. NONE likewise; -2: there is no such PILE.");
        SheetByTwo x = told(BASE + "pile 1;pile 60;");
        due("given(0) without PAIR", x.given(0), NONE);
        due("given(1) without PAIR", x.given(1), NONE);
        for (int pile : new int[] {-1, 2, 6, LOW, HIGH}) {
            due("given(" + pile + ") without PAIR", x.given(pile), -2);
        }
        x = told(BASE + "pair 9 learns 0;".repeat(4) + "pile 1;pile 2;pile 3;pile 4;pile 5;pile 6;");
        int[] first = {0, 0, 0, 1, 2, 3};
        due("1 + 2 + 3, 4, 5, 6", x.friday(), 54);
        for (int pile = 0; pile < 6; pile++) {
            due("given(" + pile + ")", x.given(pile), first[pile]);
        }
        for (int pile : new int[] {-1, 6, 7, LOW, HIGH}) {
            due("given(" + pile + ") of six", x.given(pile), -2);
        }
        due("given(0) of none", told(BASE + "pair 9 learns 0;").given(0), -2);
        due("given(0) of neither", told(BASE).given(0), -2);
        withoutLinen("given(0)", y -> y.given(0));
    }

    private static void helps() {
        said(49, "By how many SECONDS it would be sooner with a PAIR more like one of them.");
        SheetByTwo x = told(BASE + "pair 9 learns 0;".repeat(4) + "pile 10;".repeat(5));
        due("a fifth of four", x.helps(3), 90);
        x = told(BASE + "pair 9 learns 0;".repeat(4) + "pile 10;".repeat(4));
        due("no PILE for a fifth", x.helps(0), 0);
        x = told(BASE + "pair 9 learns 0;pair 2 learns 0;pile 10;pile 10;");
        due("the slow one", x.helps(0), 0);
        due("the quick one", x.helps(1), 20);
        x = told(BASE + "pair 9 learns 0;");
        due("no PILE", x.helps(0), 0);
    }

    private static void helpsCodes() {
        said(49, "NONE likewise; -2: there is none such.");
        SheetByTwo x = told(BASE + "pair 9 learns 0;".repeat(4) + "pile 1;");
        for (int pair : new int[] {-1, 4, 5, LOW, HIGH}) {
            due("helps(" + pair + ") of four", x.helps(pair), -2);
        }
        due("helps(3) of four", x.helps(3), 0);
        due("helps(1) of one", told(BASE + "pair 9 learns 0;pile 1;").helps(1), -2);
        due("helps(0) of neither", told(BASE).helps(0), -2);
        due("a PILE without PAIR: there is none such", told(BASE + "pile 1;").helps(0), -2);
        withoutLinen("helps(0)", y -> y.helps(0));
    }

    private static void drawnSeeds() {
        said(50, "a SLOT's row of CALLS from a seed (0 .. 2,000,000,000) from now on: the STATE behind them");
        for (int seed : new int[] {0, 1, 2, 3, 1_999_999_999, HIGHEST_SEED}) {
            int[] d = draws(seed, 2);
            boolean top = d[0] >= 50;
            boolean hisTop = d[1] >= 50;
            SheetByTwo x = told(BASE + FOUR + "slips her 50 his 50;halve takes 9;");
            fill(x, 0, 0, 0);
            due("WIDE of seed " + seed, x.drawn(seed, 0, 1), top == hisTop ? 3 : 6);
            due("FACE of seed " + seed, x.drawn(seed, 0, 3), top && hisTop ? 1 : 0);
            due("TWIST of seed " + seed, x.drawn(seed, 0, 4), top == hisTop ? 0 : top ? 1 : -1);
            due("SECONDS of seed " + seed, x.drawn(seed, 0, 7), 9);
            folds(x, 6, 6);
            due("SECONDS that were gone, seed " + seed, x.drawn(seed, 0, 7), 19);
            due("the STATE stays", x.state(7), 10);
        }
    }

    private static void drawnLeftOut() {
        said(50, "(those that can't be are left out)");
        SheetByTwo x = told(BASE + "call her walk his walk;call her bottom his bottom;call her top his bottom;");
        fill(x, 0, 0, 0, 0, 0, 1, 1);
        due("LONG", x.drawn(0, 0, 0), 3);
        due("WIDE", x.drawn(0, 0, 1), 3);
        due("SECONDS of two alone", x.drawn(0, 0, 7), 10);
        fill(x, 0, 0, 2, 2, 2, 1, 0);
        due("twisted twice and no more: TWIST", x.drawn(0, 0, 4), 2);
        due("all else is left out: LONG", x.drawn(0, 0, 0), 6);
        due("SECONDS of two alone", x.drawn(0, 0, 7), 10);
        x = told(sheet(8, 8, 7) + FOUR);
        fill(x, 1, 0, sixty(0));
        due("none can be: WIDE", x.drawn(5, 1, 1), 8);
        due("none can be: SECONDS", x.drawn(5, 1, 7), 0);
        x = told(BASE + FOUR);
        for (int i = 0; i < 60; i++) {
            x.fold(6);
        }
        fill(x, 1, 0, 0);
        due("behind 60", x.drawn(5, 1, 1), 3);
    }

    private static void drawnCodes() {
        said(50, "what as state(). -100, -600: as -2, -6 of chance(), no such seed.");
        SheetByTwo x = told(BASE + FOUR);
        fill(x, 0, 0, 0);
        for (int seed : NO_SEED) {
            due("drawn(" + seed + ", 0, 0)", x.drawn(seed, 0, 0), -100);
            due("drawn(" + seed + ", 1, 0) of nothing", x.drawn(seed, 1, 0), -100);
        }
        for (int seed : new int[] {0, HIGHEST_SEED}) {
            for (int slot : NO_SLOT) {
                due("drawn(" + seed + ", " + slot + ", 0)", x.drawn(seed, slot, 0), -100);
            }
            for (int what : new int[] {-1, 8, 9, LOW, HIGH}) {
                due("drawn(" + seed + ", 0, " + what + ")", x.drawn(seed, 0, what), -100);
                due("drawn(" + seed + ", 1, " + what + ") of nothing", x.drawn(seed, 1, what), -100);
            }
            for (int what = 0; what < 8; what++) {
                due("drawn(" + seed + ", 1, " + what + ") of nothing", x.drawn(seed, 1, what), -600);
            }
        }
        int[] behind = {6, 3, 1, 1, 0, 2, 2, 5};
        for (int what = 0; what < 8; what++) {
            due("drawn(7, 0, " + what + ")", x.drawn(7, 0, what), behind[what]);
        }
        for (long no : new long[] {-1, 4, 6, 1L << 32, 1L << 63}) {
            fill(x, 2, 3, 3, no);
            due(no + " is no CALL", x.drawn(0, 2, 0), -100);
        }
        fill(x, 2, 3);
        due("a row of none", x.drawn(0, 2, 0), 6);
        for (SheetByTwo bare : bare()) {
            due("drawn(0, 0, 0) without LINEN", bare.drawn(0, 0, 0), -100);
            due("drawn(0, 3, 0) without LINEN, of nothing", bare.drawn(0, 3, 0), -100);
        }
    }

    private static void slipped() {
        said(51, "How many of them slip (hers and his apart).");
        SheetByTwo x = told(BASE + FOUR + "slips her 50 his 50;");
        fill(x, 0, 0, sixty(0));
        fill(x, 1, 0, sixty(3));
        fill(x, 2, 0);
        for (int seed : new int[] {0, 1, 77, 1_999_999_999, HIGHEST_SEED}) {
            due("sixty of two, seed " + seed, x.slipped(seed, 0), below(draws(seed, 120), 50));
            due("sixty of none, seed " + seed, x.slipped(seed, 1), 0);
            due("none, seed " + seed, x.slipped(seed, 2), 0);
        }
        tell(x, BASE + FOUR + "slips her 0 his 0;");
        due("without slips", x.slipped(0, 0), 0);
        x = told(sheet(8, 8, 7) + FOUR + "slips her 50 his 50;");
        fill(x, 0, 0, sixty(0));
        due("those that can't be slip, too", x.slipped(5, 0), below(draws(5, 120), 50));
    }

    private static void slippedCodes() {
        said(51, "-2, -6 likewise.");
        SheetByTwo x = told(BASE + FOUR);
        fill(x, 0, 0, 0);
        for (int seed : NO_SEED) {
            due("slipped(" + seed + ", 0)", x.slipped(seed, 0), -2);
            due("slipped(" + seed + ", 1) of nothing", x.slipped(seed, 1), -2);
        }
        for (int slot : NO_SLOT) {
            due("slipped(0, " + slot + ")", x.slipped(0, slot), -2);
        }
        for (int slot = 1; slot < 4; slot++) {
            due("slipped(0, " + slot + ") of nothing", x.slipped(0, slot), -6);
        }
        for (long no : new long[] {-1, 4, 1L << 32}) {
            fill(x, 0, 3, 3, no);
            due(no + " is no CALL", x.slipped(0, 0), -2);
        }
        withoutLinen("slipped(0, 0)", y -> y.slipped(0, 0));
        withoutLinen("slipped(0, 3) of nothing", y -> y.slipped(0, 3));
    }

    private static void years() {
        said(52, "Of n (1 .. 20) such from seeds, the seed and 1, .., in how many none slips.");
        SheetByTwo x = told(BASE + FOUR + "slips her 50 his 25;");
        fill(x, 0, 0, 0);
        for (int seed : new int[] {0, 1, 100, 1_999_999_980}) {
            int good = 0;
            for (int n = 1; n <= 20; n++) {
                int[] d = draws(seed + n - 1, 2);
                good += d[0] >= 50 && d[1] >= 25 ? 1 : 0;
                due("years(" + seed + ", " + n + ", 0)", x.years(seed, n, 0), good);
            }
        }
        fill(x, 1, 0);
        due("a row of none", x.years(0, 20, 1), 20);
        due("the highest seed", x.years(HIGHEST_SEED, 1, 1), 1);
    }

    private static void yearsCodes() {
        said(52, "-2, -6 likewise, no such n.");
        SheetByTwo x = told(BASE + FOUR);
        fill(x, 0, 0, 0);
        for (int n : new int[] {0, -1, 21, 22, LOW, HIGH}) {
            due("years(0, " + n + ", 0)", x.years(0, n, 0), -2);
            due("years(0, " + n + ", 1) of nothing", x.years(0, n, 1), -2);
        }
        for (int seed : NO_SEED) {
            due("years(" + seed + ", 1, 0)", x.years(seed, 1, 0), -2);
        }
        for (int slot : NO_SLOT) {
            due("years(0, 1, " + slot + ")", x.years(0, 1, slot), -2);
        }
        for (int slot = 1; slot < 4; slot++) {
            due("years(0, 1, " + slot + ") of nothing", x.years(0, 1, slot), -6);
        }
        due("years(0, 1, 0)", x.years(0, 1, 0), 1);
        due("years(0, 20, 0)", x.years(0, 20, 0), 20);
        for (long no : new long[] {-1, 4, 1L << 32}) {
            fill(x, 0, 3, 3, no);
            due(no + " is no CALL", x.years(0, 1, 0), -2);
        }
        withoutLinen("years(0, 1, 0)", y -> y.years(0, 1, 0));
        withoutLinen("years(0, 1, 3) of nothing", y -> y.years(0, 1, 3));
    }
}
