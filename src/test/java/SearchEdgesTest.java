/** The sentences of promises 16 to 35 that name an edge: what can be from now on, rooms, packages, ways, CALLS. */
public final class SearchEdgesTest extends Sentences {
    private static final String SIX = "call her top his top;call her bottom his bottom;call her walk his stay;"
        + "call her stay his walk;call her walk his walk;call her top his bottom;";

    /** Texts whose wish can't be: larger, of another measure, a HEM or a FACE that never comes, too small a room. */
    private static final String[] NEVER = {
        sheet(6, 6, 60) + "wish long 12 wide 6 either any;", sheet(6, 6, 60) + "wish long 6 wide 7 either any;",
        sheet(6, 6, 60) + "wish long 4 wide 6 either any;", sheet(48, 48, 60) + "wish long 48 wide 5 either any;",
        sheet(6, 6, 60) + "wish long 6 wide 6 either in;", sheet(1, 1, 60) + "wish long 1 wide 1 back in;",
        sheet(5, 1, 60) + "wish long 1 wide 1 front top;",
    };

    public static void main(String[] args) {
        fewestCodes();
        stepCodes();
        quickestCodes();
        quickCodes();
        aloneCodes();
        railCodes();
        brief();
        briefCodes();
        room();
        best();
        parcel();
        parcelCodes();
        parcels();
        reach();
        reachCodes();
        most();
        ways();
        waysTwist();
        waysCodes();
        howCodes();
        means();
        called();
        calledCodes();
        words();
        wordsCodes();
        alike();
        doubled();
        allSaid(16, 35);
        finish();
    }

    private static void fewestCodes() {
        said(16, "NONE: it can't be; -2: there is no LINEN, no wish.");
        for (String text : NEVER) {
            due("fewest() of " + text, told(text).fewest(), NONE);
        }
        due("room enough", told(sheet(8, 9, 8) + "wish long 4 wide 9 either any;").fewest(), 1);
        due("room too small", told(sheet(8, 9, 7) + "wish long 4 wide 9 either any;").fewest(), NONE);
        due("as it is", told(sheet(8, 9, 1) + "wish long 8 wide 9 either any;").fewest(), 0);
        SheetByTwo x = told(sheet(6, 6, 6) + "wish long 6 wide 6 either any;");
        due("as it is", x.fewest(), 0);
        folds(x, 0);
        due("never back", x.fewest(), NONE);
        x.undo();
        due("taken back", x.fewest(), 0);
        withoutLinen("fewest()", SheetByTwo::fewest);
        withoutWish("fewest()", SheetByTwo::fewest);
    }

    private static void stepCodes() {
        said(17, "The i-th (from 0) of the first such. NONE: there is none such; -2 likewise.");
        SheetByTwo x = told(BASE + "wish long 3 wide 3 back any;");
        due("two", x.fewest(), 2);
        due("step(0)", x.step(0), 0);
        due("step(1)", x.step(1), 4);
        for (int i : new int[] {-1, 2, 3, LOW, HIGH}) {
            due("step(" + i + ") of two", x.step(i), NONE);
        }
        folds(x, 0, 4);
        for (int i : new int[] {-1, 0, 1}) {
            due("step(" + i + ") of none", x.step(i), NONE);
        }
        for (String text : NEVER) {
            due("step(0) of " + text, told(text).step(0), NONE);
        }
        withoutLinen("step(0)", y -> y.step(0));
        withoutLinen("step(-1)", y -> y.step(-1));
        withoutWish("step(0)", y -> y.step(0));
    }

    private static void quickestCodes() {
        said(18, "NONE, -2 likewise.");
        for (String text : NEVER) {
            due("quickest() of " + text, told(text).quickest(), NONE);
        }
        due("room enough", told(sheet(8, 9, 8) + "wish long 4 wide 9 either any;").quickest(), 5);
        due("room too small", told(sheet(8, 9, 7) + "wish long 4 wide 9 either any;").quickest(), NONE);
        due("as it is", told(sheet(8, 9, 1) + "wish long 8 wide 9 either any;").quickest(), 0);
        String all = "halve takes 99;third takes 99;meet takes 99;turn takes 99;quarter takes 99;untwist takes 99;";
        due("the slowest", told(sheet(48, 32, 60) + all + "wish long 1 wide 1 front any;").quickest(), 99 * 11);
        withoutLinen("quickest()", SheetByTwo::quickest);
        withoutWish("quickest()", SheetByTwo::quickest);
    }

    private static void quickCodes() {
        said(19, "NONE, -2 likewise.");
        SheetByTwo x = told(sheet(4, 4, 4) + "wish long 4 wide 2 either any;halve takes 4;meet takes 2;quarter takes 1;");
        due("HERS", x.quick(0), 3);
        due("QUARTER", x.quick(1), 8);
        for (int i : new int[] {-1, 2, 3, LOW, HIGH}) {
            due("quick(" + i + ") of two", x.quick(i), NONE);
        }
        folds(x, 3, 8);
        for (int i : new int[] {-1, 0, 1}) {
            due("quick(" + i + ") of none", x.quick(i), NONE);
        }
        for (String text : NEVER) {
            due("quick(0) of " + text, told(text).quick(0), NONE);
        }
        withoutLinen("quick(0)", y -> y.quick(0));
        withoutLinen("quick(-1)", y -> y.quick(-1));
        withoutWish("quick(0)", y -> y.quick(0));
    }

    private static void aloneCodes() {
        said(20, "ALONE: the fewest MOVES. NONE, -2 likewise.");
        for (String text : NEVER) {
            due("alone() of " + text, told(text).alone(), NONE);
        }
        String arms = "linen long 8 wide 9 thick 1 room 60 arms ";
        due("arms enough", told(arms + "8;wish long 8 wide 3 either any;").alone(), 1);
        due("arms too short", told(arms + "7;wish long 8 wide 3 either any;").alone(), NONE);
        due("as it is", told(arms + "1;wish long 8 wide 9 either any;").alone(), 0);
        String only = "linen long 7 wide 2 thick 1 room 1 arms 1;wish long ";
        due("never BOTH", told("linen long 2 wide 7 thick 1 room 60 arms 60;wish long 1 wide 7 either in;").alone(), NONE);
        due("QUARTER, HERS, QUARTER", told(only + "7 wide 1 either any;").alone(), 3);
        withoutLinen("alone()", SheetByTwo::alone);
        withoutWish("alone()", SheetByTwo::alone);
    }

    private static void railCodes() {
        said(21, "The i-th of the first such. NONE, -2 likewise.");
        SheetByTwo x = told("linen long 7 wide 2 thick 1 room 1 arms 1;wish long 7 wide 1 either any;");
        int[] three = {8, 3, 8};
        for (int i = 0; i < 3; i++) {
            due("rail(" + i + ")", x.rail(i), three[i]);
        }
        for (int i : new int[] {-1, 3, 4, LOW, HIGH}) {
            due("rail(" + i + ") of three", x.rail(i), NONE);
        }
        due("rail(0) as it is", told(sheet(8, 9, 1) + "wish long 8 wide 9 either any;").rail(0), NONE);
        for (String text : NEVER) {
            due("rail(0) of " + text, told(text).rail(0), NONE);
        }
        withoutLinen("rail(0)", y -> y.rail(0));
        withoutLinen("rail(-1)", y -> y.rail(-1));
        withoutWish("rail(0)", y -> y.rail(0));
    }

    private static void brief() {
        said(22, "FEWEST, if the room were n (1 .. 60).");
        for (int room : new int[] {1, 7, 60}) {
            SheetByTwo x = told(sheet(8, 4, room) + "wish long 4 wide 2 either any;");
            for (int n = 1; n <= 60; n++) {
                due("brief(" + n + ") in " + room, x.brief(n), n < 4 ? NONE : n < 8 ? 3 : 2);
            }
            due("the room stays", x.count(3), room);
            due("fewest() in it", x.fewest(), room < 4 ? NONE : room < 8 ? 3 : 2);
        }
        SheetByTwo x = told(sheet(48, 47, 1) + "wish long 24 wide 47 either any;");
        due("brief(46)", x.brief(46), NONE);
        due("brief(47)", x.brief(47), 3);
        due("brief(48)", x.brief(48), 1);
        due("brief(60)", x.brief(60), 1);
        due("brief(1), as it is", told(sheet(8, 9, 1) + "wish long 8 wide 9 either any;").brief(1), 0);
    }

    private static void briefCodes() {
        said(22, "NONE, -2 likewise, no such n.");
        SheetByTwo x = told(ALL);
        for (int n : new int[] {0, -1, 61, 62, LOW, HIGH}) {
            due("brief(" + n + ")", x.brief(n), -2);
        }
        for (String text : NEVER) {
            due("brief(1) of " + text, told(text).brief(1), NONE);
            due("brief(60) of " + text, told(text).brief(60), NONE);
            due("brief(61) of " + text, told(text).brief(61), -2);
        }
        withoutLinen("brief(60)", y -> y.brief(60));
        withoutWish("brief(60)", y -> y.brief(60));
    }

    private static void room() {
        said(23, "The least room (1 .. 60) in which it can be. NONE: in none; -2 likewise.");
        for (int n = 1; n <= 48; n++) {
            SheetByTwo x = told(sheet(n, n, 1) + "wish long " + n + " wide " + n + " back bottom;");
            due("a TURN of " + n, x.room(), n);
            due("as it is of " + n, told(sheet(n, n, 1) + "wish long " + n + " wide " + n + " front any;").room(), 1);
        }
        due("a QUARTER", told(sheet(48, 5, 60) + "wish long 5 wide 48 either any;").room(), 5);
        due("QUARTERS and halves", told(sheet(48, 8, 60) + "wish long 48 wide 1 either any;").room(), 48);
        due("QUARTER, HERS, QUARTER", told(sheet(47, 46, 60) + "wish long 46 wide 47 either any;").room(), 46);
        for (String text : NEVER) {
            due("room() of " + text, told(text).room(), NONE);
        }
        SheetByTwo x = told(sheet(6, 6, 6) + TWISTS + "wish long 6 wide 6 front top;");
        calls(x, 0, 0);
        due("UNTWIST asks no room", x.room(), 1);
        withoutLinen("room()", SheetByTwo::room);
        withoutWish("room()", SheetByTwo::room);
    }

    private static void best() {
        said(24, "The room by which FEWEST is least, the least of several. NONE, -2 likewise.");
        for (int n = 1; n <= 48; n++) {
            SheetByTwo x = told(sheet(n, n, 1) + "wish long " + n + " wide " + n + " back bottom;");
            due("a TURN of " + n, x.best(), n);
            due("as it is of " + n, told(sheet(n, n, 60) + "wish long " + n + " wide " + n + " front any;").best(), 1);
        }
        SheetByTwo x = told(sheet(8, 4, 1) + "wish long 4 wide 2 either any;");
        due("two in 8, three in 4", x.best(), 8);
        due("the least is another", x.room(), 4);
        x = told(sheet(48, 24, 30) + "wish long 24 wide 24 back any;");
        due("HERS in 48", x.best(), 48);
        due("QUARTER, TOP in 24", x.room(), 24);
        for (String text : NEVER) {
            due("best() of " + text, told(text).best(), NONE);
        }
        withoutLinen("best()", SheetByTwo::best);
        withoutWish("best()", SheetByTwo::best);
    }

    private static void parcel() {
        said(25, "to a package of so long and wide (1 .. 48; HEM, FACE as they may be, TWIST 0).");
        for (int n = 1; n <= 48; n++) {
            for (int m = 1; m <= 48; m += n == 1 || n == 48 ? 1 : 47) {
                due("parcel() as it is", told(sheet(n, m, 60)).parcel(n, m), 0);
                due("parcel() as it is, no room", told(sheet(n, m, 1)).parcel(n, m), 0);
                due("QUARTER", told(sheet(n, m, 60)).parcel(m, n), n == m ? 0 : 1);
            }
        }
        SheetByTwo x = told(sheet(6, 6, 6) + TWISTS);
        folds(x, 6, 8);
        due("HEM, FACE as they may be", x.parcel(6, 6), 0);
        calls(x, 1);
        due("UNTWIST", x.parcel(6, 6), 1);
        calls(x, 1);
        due("UNTWIST twice", x.parcel(6, 6), 2);
        due("and HERS", x.parcel(3, 6), 3);
    }

    private static void parcelCodes() {
        said(25, "NONE: none do; -2: there are none such, no LINEN.");
        SheetByTwo x = told(sheet(48, 48, 60));
        for (int no : new int[] {0, -1, 49, 50, LOW, HIGH}) {
            due("parcel(" + no + ", 1)", x.parcel(no, 1), -2);
            due("parcel(1, " + no + ")", x.parcel(1, no), -2);
            due("parcel(48, " + no + ")", x.parcel(48, no), -2);
            due("parcel(" + no + ", 48)", x.parcel(no, 48), -2);
        }
        due("parcel(48, 48)", x.parcel(48, 48), 0);
        due("parcel(47, 48)", x.parcel(47, 48), NONE);
        due("parcel(48, 47)", x.parcel(48, 47), NONE);
        due("parcel(5, 1)", x.parcel(5, 1), NONE);
        folds(x, 3);
        due("never longer again", x.parcel(48, 48), NONE);
        due("no room", told(sheet(8, 8, 7)).parcel(8, 4), NONE);
        due("room", told(sheet(8, 8, 8)).parcel(8, 4), 1);
        withoutLinen("parcel(6, 6)", y -> y.parcel(6, 6));
    }

    private static void parcels() {
        said(26, "How many unlike packages (LONG, WIDE) there can be from now on. -2: there is no LINEN.");
        due("1 by 1", told(sheet(1, 1, 1)).parcels(), 1);
        due("2 by 2, no room", told(sheet(2, 2, 1)).parcels(), 1);
        due("2 by 2", told(sheet(2, 2, 2)).parcels(), 4);
        due("5 by 7", told(sheet(5, 7, 60)).parcels(), 2);
        due("36 by 48, the most", told(sheet(36, 48, 60)).parcels(), 144);
        SheetByTwo x = told(sheet(2, 2, 2) + TWISTS);
        calls(x, 0, 0);
        due("twisted", x.parcels(), 4);
        folds(x, 9, 9, 0);
        due("now that it is 2 by 1", x.parcels(), 3);
        folds(x, 3);
        due("now that it is 1 by 1", x.parcels(), 1);
        withoutLinen("parcels()", SheetByTwo::parcels);
    }

    private static void reach() {
        said(27, "How many unlike STATES behind n (0 .. 20) MOVES or fewer.");
        SheetByTwo x = told(sheet(1, 1, 1));
        int[] of = {1, 4, 8, 8};
        for (int n = 0; n <= 20; n++) {
            due("1 by 1, reach(" + n + ")", x.reach(n), of[Math.min(n, 3)]);
        }
        due("no room", told(sheet(2, 2, 1)).reach(20), 1);
        due("no room, reach(0)", told(sheet(2, 2, 1)).reach(0), 1);
        x = told(sheet(2, 2, 1) + TWISTS);
        due("no room for a TWIST", x.call(0), -5);
        x = told(sheet(2, 5, 2) + "call her top his bottom;");
        due("no TWIST of 5", x.call(0), -5);
        x = told(sheet(1, 2, 2) + "call her top his bottom;");
        calls(x, 0, 0);
        int[] twisted = {1, 2, 3};
        for (int n = 0; n < 3; n++) {
            due("twisted, reach(" + n + ")", x.reach(n), twisted[n]);
        }
        due("48 by 32, the most", told(sheet(48, 32, 60)).reach(20), 630);
        x = told(sheet(48, 32, 60) + "call her top his bottom;");
        calls(x, 0, 0);
        due("48 by 32, twisted", x.reach(20), 632);
        due("36 by 48", told(sheet(36, 48, 60)).reach(20), 612);
    }

    private static void reachCodes() {
        said(27, "-2: there is no such n, no LINEN.");
        SheetByTwo x = told(ALL);
        for (int n : new int[] {-1, -2, 21, 22, LOW, HIGH}) {
            due("reach(" + n + ")", x.reach(n), -2);
        }
        due("reach(0)", x.reach(0), 1);
        due("reach(20)", x.reach(20) > 0 ? 1 : 0, 1);
        withoutLinen("reach(0)", y -> y.reach(0));
        withoutLinen("reach(20)", y -> y.reach(20));
    }

    private static void most() {
        said(28, "The most LAYERS that there can be. -2: there is no LINEN.");
        due("1 by 1", told(sheet(1, 1, 1)).most(), 1);
        due("48 by 48", told(sheet(48, 48, 60)).most(), 48 * 48);
        due("48 by 48, room 48", told(sheet(48, 48, 48)).most(), 48 * 48);
        due("48 by 48, room 47", told(sheet(48, 48, 47)).most(), 1);
        due("47 by 46", told(sheet(47, 46, 60)).most(), 2);
        SheetByTwo x = told(sheet(9, 3, 9));
        due("9 by 3", x.most(), 27);
        folds(x, 2);
        due("9 by 1", x.most(), 27);
        x = told(sheet(6, 5, 6));
        folds(x, 3);
        due("what is folded counts, too", x.most(), 6);
        x = told(sheet(2, 2, 2) + TWISTS);
        calls(x, 0, 0);
        due("twisted", x.most(), 4);
        withoutLinen("most()", SheetByTwo::most);
    }

    /** Rows of n MOVES of 1 by 1 (TURN, ROUND, QUARTER alone), by HEM and FACE behind them. */
    private static long[] waysOfOne(int n) {
        int[][] hems = {{1, 0, 2, 3}, {1, 0, 3, 2}, {3, 2, 0, 1}};
        long[] ways = {1, 0, 0, 0, 0, 0, 0, 0};
        for (int k = 0; k < n; k++) {
            long[] next = new long[8];
            for (int i = 0; i < 8; i++) {
                next[hems[0][i % 4] + 4 * (1 - i / 4)] += ways[i];
                next[hems[1][i % 4] + 4 * (i / 4)] += ways[i];
                next[hems[2][i % 4] + 4 * (i / 4)] += ways[i];
            }
            ways = next;
        }
        return ways;
    }

    private static void ways() {
        said(29, "In how many rows of n (0 .. 12) MOVES from the first STATE it can be as it is now (HEM and FACE, too");
        SheetByTwo x = told(sheet(1, 1, 1));
        int[][] rows = {{}, {7}, {7, 8}, {8}, {6, 7}, {6}, {8, 6, 7}, {8, 6}};
        for (int i = 0; i < 8; i++) {
            x.anew();
            folds(x, rows[i]);
            due("HEM", x.state(2), i % 4);
            due("FACE", x.state(3), i / 4);
            for (int n = 0; n <= 12; n++) {
                due("ways(" + n + ") of HEM " + i % 4 + ", FACE " + i / 4, x.ways(n), waysOfOne(n)[i]);
            }
        }
        x = told(sheet(48, 48, 48));
        for (int move = 0; move < 9; move++) {
            due("ways(0)", x.ways(0), 1);
            folds(x, move);
            due("ways(1) of MOVE " + move, x.ways(1), move == 3 || move == 5 ? 2 : 1);
            due("how(1, 0) of MOVE " + move, x.how(1, 0), move == 5 ? 3 : move);
            due("ways(0) of MOVE " + move, x.ways(0), 0);
            x.undo();
        }
        due("ways(0)", x.ways(0), 1);
        folds(x, 0, 0, 0, 0, 2, 3, 4, 5, 3, 8, 2, 7);
        due("a row of twelve: more than one", x.ways(12) > 1 ? 1 : 0, 1);
        due("of eleven: another one without ROUND", x.ways(11) > 0 ? 1 : 0, 1);
        due("of nine", x.ways(9), 0);
        due("of none", x.ways(0), 0);
        x = told(sheet(8, 8, 7));
        due("no room, ways(0)", x.ways(0), 1);
        for (int n = 1; n <= 12; n++) {
            due("no room, ways(" + n + ")", x.ways(n), 0);
        }
    }

    private static void waysTwist() {
        said(29, "TWIST 0, else none)");
        SheetByTwo x = told(BASE + TWISTS);
        for (int twist : new int[] {1, 2, 1, 0, -1, -2}) {
            calls(x, twist > x.state(4) ? 0 : 1);
            due("TWIST", x.state(4), twist);
            due("ways(0)", x.ways(0), twist == 0 ? 1 : 0);
            due("ways(2)", x.ways(2), twist == 0 ? 2 : 0);
            due("ways(12)", x.ways(12) > 0 ? 1 : 0, twist == 0 ? 1 : 0);
            due("how(2, 0)", x.how(2, 0), twist == 0 ? 6 : NONE);
        }
        folds(x, 9, 9);
        due("untwisted", x.ways(0), 1);
    }

    private static void waysCodes() {
        said(29, "-2: there is no such n, no LINEN.");
        SheetByTwo x = told(ALL);
        for (int n : new int[] {-1, 13, 14, LOW, HIGH}) {
            due("ways(" + n + ")", x.ways(n), -2);
        }
        due("ways(12)", x.ways(12) > 0 ? 1 : 0, 1);
        withoutLinen("ways(0)", y -> y.ways(0));
        withoutLinen("ways(12)", y -> y.ways(12));
    }

    private static void howCodes() {
        said(30, "The i-th MOVE of the first such row (the least). NONE: there is none such; -2 likewise.");
        SheetByTwo x = told(sheet(1, 1, 1));
        int[] twelve = {6, 6, 6, 6, 6, 6, 6, 6, 6, 6, 6, 6};
        for (int i = 0; i < 12; i++) {
            due("how(12, " + i + ")", x.how(12, i), twelve[i]);
        }
        for (int i : new int[] {-1, 12, 13, LOW, HIGH}) {
            due("how(12, " + i + ")", x.how(12, i), NONE);
        }
        for (int i : new int[] {-1, 0, 1}) {
            due("how(0, " + i + ")", x.how(0, i), NONE);
            due("how(1, " + i + ")", x.how(1, i), NONE);
            due("how(13, " + i + ")", x.how(13, i), -2);
            due("how(-1, " + i + ")", x.how(-1, i), -2);
        }
        for (int n : new int[] {LOW, HIGH}) {
            due("how(" + n + ", 0)", x.how(n, 0), -2);
        }
        folds(x, 8);
        due("how(1, 0)", x.how(1, 0), 8);
        due("how(1, 1)", x.how(1, 1), NONE);
        due("how(2, 0)", x.how(2, 0), NONE);
        for (int i = 0; i < 3; i++) {
            due("how(3, " + i + ")", x.how(3, i), new int[] {6, 6, 8}[i]);
        }
        folds(x, 6, 7);
        for (int i = 0; i < 3; i++) {
            due("how(3, " + i + ")", x.how(3, i), new int[] {7, 8, 6}[i]);
        }
        withoutLinen("how(1, 0)", y -> y.how(1, 0));
        withoutLinen("how(0, 0)", y -> y.how(0, 0));
    }

    private static void means() {
        said(31, "as call() tells, whether it can be or not. -2: there is none such.");
        for (int i = 0; i < 16; i++) {
            String text = "call her " + ACTS[i / 4] + " his " + ACTS[i % 4] + ";slips her 50 his 50;";
            due("means(0) of " + text, told(BASE + text).means(0), MEANS[i]);
            due("means(0) of " + text + " that can't be", told(sheet(7, 7, 1) + text).means(0), MEANS[i]);
            SheetByTwo x = told(BASE + TWISTS + text);
            calls(x, 0, 0);
            due("means(2) of " + text + " twisted", x.means(2), MEANS[i]);
        }
        SheetByTwo x = told(BASE + SIX);
        for (int call : new int[] {-1, 6, 7, LOW, HIGH}) {
            due("means(" + call + ") of six", x.means(call), -2);
        }
        due("means(5) of six", x.means(5), 10);
        due("means(0) of none", told(BASE).means(0), -2);
        tell(x, BASE + "call her stay his stay;");
        due("means(1) of one in place of six", x.means(1), -2);
        withoutLinen("means(0)", y -> y.means(0));
    }

    private static void called() {
        said(32, "the fewest CALLS (UNTWIST counts, too) till it is as wished.");
        SheetByTwo x = told(sheet(8, 8, 8) + SIX + "wish long 1 wide 8 either any;");
        due("three halves", x.called(), 3);
        calls(x, 5);
        due("and an UNTWIST", x.called(), 4);
        calls(x, 5);
        due("and two", x.called(), 5);
        folds(x, 9);
        due("and one", x.called(), 4);
        folds(x, 9, 3, 3);
        due("one half", x.called(), 1);
        folds(x, 3);
        due("none", x.called(), 0);
        folds(x, 8);
        due("a QUARTER is no CALL", x.called(), NONE);
    }

    private static void calledCodes() {
        said(32, "NONE: none do; -2: there is no LINEN, no wish.");
        for (String text : NEVER) {
            due("called() of " + text, told(text + SIX).called(), NONE);
        }
        due("no CALLS", told(sheet(8, 8, 8) + "wish long 4 wide 8 either any;").called(), NONE);
        due("CALLS of nothing", told(sheet(8, 8, 8) + "call her top his stay;wish long 4 wide 8 either any;").called(), NONE);
        due("no CALLS, as it is", told(sheet(8, 8, 8) + "wish long 8 wide 8 either any;").called(), 0);
        due("room", told(sheet(8, 8, 8) + SIX + "wish long 4 wide 8 either any;").called(), 1);
        due("no room", told(sheet(8, 8, 7) + SIX + "wish long 4 wide 8 either any;").called(), NONE);
        due("no THIRD", told(sheet(8, 9, 8) + SIX + "wish long 8 wide 3 either any;").called(), NONE);
        due("no ROUND", told(sheet(8, 8, 8) + SIX + "wish long 8 wide 8 front bottom;").called(), NONE);
        withoutLinen("called()", SheetByTwo::called);
        withoutWish("called()", SheetByTwo::called);
    }

    private static void words(String text, int count, int set) {
        SheetByTwo x = told(text);
        due("words(0) of " + text, x.words(0), count);
        due("words(1) of " + text, x.words(1), set);
    }

    private static void words() {
        said(33, "The fewest unlike CALLS by which it can be: how many (what 0), which (what 1: as bits, the least set).");
        String sheet = sheet(8, 8, 8);
        words(sheet + "wish long 8 wide 8 front top;", 0, 0);
        words(sheet + SIX + "wish long 8 wide 8 front top;", 0, 0);
        words(sheet + SIX + "wish long 8 wide 1 either any;", 1, 1);
        words(sheet + SIX + "wish long 8 wide 1 front any;", 1, 2);
        words(sheet + SIX + "wish long 1 wide 8 front any;", 1, 8);
        words(sheet + SIX + "wish long 4 wide 4 front any;", 2, 5);
        words(sheet + "call her top his top;call her bottom his bottom;call her stay his walk;call her walk his stay;"
            + "wish long 4 wide 4 front any;", 2, 6);
        words(sheet + "call her stay his stay;".repeat(5) + "call her bottom his bottom;wish long 8 wide 1 front any;", 1, 32);
        words(sheet + "call her stay his walk;call her stay his stay;call her walk his stay;call her stay his stay;"
            + "call her stay his walk;call her bottom his bottom;wish long 2 wide 4 back any;", 3, 37);
        words(sheet + "call her walk his walk;".repeat(6) + "wish long 1 wide 8 either any;", 1, 1);
        SheetByTwo x = told(sheet + SIX + "wish long 8 wide 8 front top;");
        calls(x, 5, 5);
        due("UNTWIST is no CALL of them", x.words(0), 0);
        due("UNTWIST is no CALL of them", x.words(1), 0);
    }

    private static void wordsCodes() {
        said(33, "NONE: none do; -2 likewise, no such what.");
        for (String text : NEVER) {
            words(text + SIX, NONE, NONE);
        }
        words(sheet(8, 8, 8) + "wish long 8 wide 4 either any;", NONE, NONE);
        words(sheet(8, 8, 7) + SIX + "wish long 8 wide 4 either any;", NONE, NONE);
        for (String text : new String[] {ALL, NEVER[0]}) {
            SheetByTwo x = told(text);
            for (int what : new int[] {-1, 2, 3, LOW, HIGH}) {
                due("words(" + what + ")", x.words(what), -2);
            }
        }
        for (int what = 0; what < 2; what++) {
            int of = what;
            withoutLinen("words(" + what + ")", x -> x.words(of));
            withoutWish("words(" + what + ")", x -> x.words(of));
        }
    }

    private static void alike() {
        said(34, "CALLS that tell both the same, as bits. -2: there is no LINEN.");
        for (int i = 0; i < 16; i++) {
            String text = "call her " + ACTS[i / 4] + " his " + ACTS[i % 4] + ";";
            boolean same = i / 4 == i % 4;
            due("alike() of " + text, told(BASE + text).alike(), same ? 1 : 0);
            due("alike() of six of " + text, told(BASE + text.repeat(6)).alike(), same ? 63 : 0);
            due("alike() of " + text + " as the last of six",
                told(BASE + "call her top his stay;".repeat(5) + text).alike(), same ? 32 : 0);
        }
        due("no CALLS", told(BASE).alike(), 0);
        SheetByTwo x = told(BASE + "call her top his top;".repeat(6));
        tell(x, BASE);
        due("no CALLS now", x.alike(), 0);
        withoutLinen("alike()", SheetByTwo::alike);
    }

    private static void doubled() {
        said(35, "CALLS that tell as another one (ahead of it) does, as bits. -2 likewise.");
        for (int i = 0; i < 16; i++) {
            String one = "call her " + ACTS[i / 4] + " his " + ACTS[i % 4] + ";";
            due("doubled() of one", told(BASE + one).doubled(), 0);
            due("doubled() of six", told(BASE + one.repeat(6)).doubled(), 62);
            for (int k = 0; k < 16; k++) {
                String other = "call her " + ACTS[k / 4] + " his " + ACTS[k % 4] + ";";
                due("doubled() of " + one + other, told(BASE + one + other).doubled(), i == k ? 2 : 0);
                due("doubled() with four between", told(BASE + one + (i == 5 ? "call her stay his walk;" : "")
                    + (i == 5 ? "" : "call her bottom his bottom;") + other).doubled(), doubledOf(i, i == 5 ? 14 : 5, k));
            }
        }
        due("the first and the last of six", told(BASE + SIX.substring(0, SIX.lastIndexOf("call")) + SIX.substring(0, 21))
            .doubled(), 32);
        due("no CALLS", told(BASE).doubled(), 0);
        withoutLinen("doubled()", SheetByTwo::doubled);
    }

    private static int doubledOf(int... kinds) {
        int bits = 0;
        for (int i = 0; i < kinds.length; i++) {
            for (int k = 0; k < i; k++) {
                bits |= kinds[i] == kinds[k] ? 1 << i : 0;
            }
        }
        return bits;
    }
}
