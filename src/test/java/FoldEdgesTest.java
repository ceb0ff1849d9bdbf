/** The sentences of promises 1 to 15 that name an edge: the TAPE, the LINEN, STATES, what is done and taken back, PLANS. */
public final class FoldEdgesTest extends Sentences {
    private static final int BLANKS = 0x20202020;
    private static final int SIGNS = 0x3b3b3b3b;

    public static void main(String[] args) {
        newObject();
        feed();
        feedFull();
        end();
        endRefused();
        linenTaken();
        linenLines();
        linenFirst();
        linenFault();
        fault();
        faultNone();
        stateCodes();
        can();
        canCodes();
        movesCodes();
        foldCant();
        foldSixty();
        foldCodes();
        callWithoutSlips();
        callNothing();
        callCodes();
        undo();
        undoCodes();
        led();
        ledCodes();
        anew();
        anewCodes();
        plan();
        planCodes();
        planNothing();
        after();
        afterCodes();
        allSaid(1, 15);
        finish();
    }

    private static void newObject() {
        said(1, "No LINEN.");
        SheetByTwo x = new SheetByTwo();
        for (int what = 0; what <= 10; what++) {
            due("count(" + what + ")", x.count(what), 0);
        }
        for (int what = 0; what < 8; what++) {
            due("state(" + what + ")", x.state(what), -100);
        }
        due("moves()", x.moves(), -2);
        for (int slot = 0; slot < 4; slot++) {
            due("write() to SLOT " + slot, x.write(slot, 0, 1), -6);
        }
        for (int k = 0; k < 3; k++) {
            due("back(" + k + ")", x.back(k), -6);
        }
        SheetByTwo y = new SheetByTwo();
        tell(y, ALL);
        folds(y, 0);
        due("another object", new SheetByTwo().count(8), 0);
        due("the first one", x.count(8), 0);
    }

    private static void feed() {
        said(2, "Twenty bytes come behind the TAPE, four of each number, the highest first: how many it has");
        SheetByTwo x = new SheetByTwo();
        for (int i = 1; i <= 50; i++) {
            due("feed " + i, x.feed(LOW, HIGH, -1, 0, 1), 20 * i);
        }
        for (int at = 0; at < 20; at++) {
            for (int ahead : new int[] {0, 20, 980}) {
                x = new SheetByTwo();
                for (int i = 0; i < ahead; i += 20) {
                    x.feed(BLANKS, BLANKS, BLANKS, BLANKS, BLANKS);
                }
                int[] five = new int[5];
                for (int i = 0; i < 5; i++) {
                    five[i] = blanksWith(at - 4 * i, ';');
                }
                due("the sign as byte " + at, x.feed(five[0], five[1], five[2], five[3], five[4]), ahead + 20);
                due("the sign as byte " + at, x.linen(), -4);
                due("its place", x.fault(1), ahead + at);
            }
        }
        x = new SheetByTwo();
        x.feed(0xa0202020, BLANKS, BLANKS, BLANKS, BLANKS);
        due("a byte above 127", x.linen(), -4);
        due("its place", x.fault(1), 0);
        x.feed(0x0a0a0a0a, BLANKS, 0x0a0a0a0a, BLANKS, BLANKS);
        due("blanks alone", x.linen(), 0);
    }

    private static SheetByTwo fullTape(int size) {
        SheetByTwo x = new SheetByTwo();
        feedText(x, BASE + " ".repeat(1000 - BASE.length()));
        x.end(size);
        return x;
    }

    private static void feedFull() {
        said(2, "NONE, and none come, if it would have more than 1,000.");
        for (int size : new int[] {981, 990, 999, 1000}) {
            SheetByTwo x = fullTape(size);
            due("feed() behind " + size, x.feed(SIGNS, SIGNS, SIGNS, SIGNS, SIGNS), NONE);
            due("what it has then", x.count(9), size);
            due("end(1000)", x.end(1000), size == 1000 ? 1000 : NONE);
            due("none came", x.linen(), 1);
            due("feed() then", x.feed(BLANKS, BLANKS, BLANKS, BLANKS, BLANKS), 20);
        }
        for (int size : new int[] {979, 980}) {
            SheetByTwo x = fullTape(size);
            due("feed() behind " + size, x.feed(SIGNS, SIGNS, SIGNS, SIGNS, SIGNS), size + 20);
            due("what it has then", x.count(9), size + 20);
            due("they came", x.linen(), -4);
            due("the first of them", x.fault(1), size);
        }
    }

    private static void end() {
        said(3, "The TAPE has its first n bytes alone: n");
        SheetByTwo x = new SheetByTwo();
        due("none of none", x.end(0), 0);
        for (int n = 0; n <= 60; n++) {
            x = new SheetByTwo();
            feedText(x, BASE + ";".repeat(18));
            due("end(" + n + ")", x.end(n), n);
            due("count(9)", x.count(9), n);
            due("linen()", x.linen(), n == 42 ? 1 : n == 0 ? 0 : -4);
            due("the FAULT's place", x.fault(1) < n ? 1 : 0, n == 42 || n > 42 || n == 0 || isInWord(n) ? 1 : 0);
        }
        x = new SheetByTwo();
        feedText(x, BASE + ";".repeat(18));
        x.end(42);
        due("what is cut is gone", x.end(43), NONE);
        due("others come there", x.feed(BLANKS, BLANKS, BLANKS, BLANKS, BLANKS), 62);
        due("others came there", x.linen(), 1);
        x = fullTape(1000);
        due("all of a full TAPE", x.end(1000), 1000);
        due("end(999)", x.end(999), 999);
        due("linen()", x.linen(), 1);
    }

    /** Whether the first n bytes of BASE end within a word: its first byte is the FAULT's place then. */
    private static boolean isInWord(int n) {
        return n > 0 && n < BASE.length() && Character.isLetter(BASE.charAt(n - 1)) && Character.isLetter(BASE.charAt(n));
    }

    private static void endRefused() {
        said(3, "NONE, and nothing happens, if it has not so many, or n is below 0.");
        SheetByTwo x = new SheetByTwo();
        for (int n : new int[] {1, -1, HIGH, LOW}) {
            due("end(" + n + ") of none", x.end(n), NONE);
        }
        feedText(x, BASE);
        for (int n : new int[] {43, 44, 60, 1000, 1001, HIGH, -1, -2, -42, LOW}) {
            due("end(" + n + ") of 42", x.end(n), NONE);
            due("count(9)", x.count(9), 42);
        }
        due("the TAPE stays", x.linen(), 1);
        x = fullTape(1000);
        due("end(1001) of 1,000", x.end(1001), NONE);
        due("end(-1) of 1,000", x.end(-1), NONE);
        due("count(9)", x.count(9), 1000);
    }

    private static void linenTaken() {
        said(4, "The TAPE (empty then) is the LINEN (in place of another)");
        SheetByTwo x = new SheetByTwo();
        due("an empty one", x.linen(), 0);
        due("empty then", x.count(9), 0);
        due("a whole one", tell(x, ALL), 12);
        due("empty then", x.count(9), 0);
        due("one with a FAULT", tell(x, "towel"), -4);
        due("empty then", x.count(9), 0);
        due("end(1) then", x.end(1), NONE);
        due("another", tell(x, "linen long 1 wide 2 thick 3 room 4 arms 5;"), 1);
        due("empty then", x.count(9), 0);
        int[] counts = {0, 0, 0, 4, 5, 0, 0, 0, 1};
        for (int what = 0; what < counts.length; what++) {
            due("nothing is left of the one ahead: count(" + what + ")", x.count(what), counts[what]);
        }
        tell(x, BASE + "call her top his stay;");
        due("its slips are not left", x.right(0, 1), 1);
        due("its SECONDS are not left", x.fold(0), 5);
        String more = ALL + "third takes 9;meet takes 9;turn takes 9;quarter takes 9;untwist takes 9;call her stay his top;";
        for (String text : new String[] {more, more + "#", more + BASE, more + "pile 61;"}) {
            x = new SheetByTwo();
            for (int times = 0; times < 3; times++) {
                tell(x, text);
            }
            for (int times = 0; times < 3; times++) {
                nothingLeft(x);
            }
        }
    }

    /** Tells a LINEN of few words: nothing of one ahead of it, be it whole or not, is in it. */
    private static void nothingLeft(SheetByTwo x) {
        due("another", tell(x, BASE + TWISTS + "call her stay his top;"), 4);
        int[] counts = {3, 0, 0, 6, 6, 0, 0, 0, 4, 0, 0};
        for (int what = 0; what < counts.length; what++) {
            due("nothing is left: count(" + what + ")", x.count(what), counts[what]);
        }
        due("her slips", x.right(0, 1), 1);
        due("his slips", x.right(2, 1), 1);
        due("a wish", x.fewest(), -2);
        due("a PAIR", x.learn(0, 1), -2);
        due("a PILE", x.given(0), -2);
        for (int move = 0; move < 9; move++) {
            due("SECONDS of MOVE " + move, x.fold(move), 5);
            x.undo();
        }
        x.call(0);
        due("SECONDS of UNTWIST", x.fold(9), 5);
    }

    private static void linenLines() {
        said(4, "how many LINES (0: there is none then)");
        for (String none : new String[] {"", " ", "\n", " ".repeat(1000)}) {
            SheetByTwo x = told(ALL);
            folds(x, 0);
            due("none told", tell(x, none), 0);
            due("there is none", x.state(0), -100);
            due("count(8)", x.count(8), 0);
            due("count(6)", x.count(6), 0);
            due("fewest()", x.fewest(), -2);
            due("fault(0)", x.fault(0), 0);
            due("one told", tell(x, BASE), 1);
            due("there is one", x.state(0), 6);
        }
        due("one LINE", told(BASE).count(8), 1);
        due("two LINES", told(BASE + "press 1;").count(8), 2);
        due("a LINE that strikes another counts, too", told(BASE + "press 1;press 2;").count(8), 3);
    }

    private static void linenFirst() {
        said(4, "STATE as at first.");
        SheetByTwo x = told(ALL);
        folds(x, 3, 6);
        calls(x, 1);
        tell(x, "linen long 8 wide 5 thick 4 room 3 arms 2;");
        int[] first = {8, 5, 0, 0, 0, 1, 4, 0};
        for (int what = 0; what < 8; what++) {
            due("state(" + what + ")", x.state(what), first[what]);
        }
        due("what was done", x.count(6), 0);
        due("led(0)", x.led(0), NONE);
        due("undo()", x.undo(), -5);
    }

    private static void linenFault() {
        said(4, "-4: a FAULT (all stays).");
        String[] faulty = {"towel", "linen long 0", BASE + "press 1", BASE + "call her top his top;".repeat(7), ";",
            "linen long 1 wide 1 thick 1 room 1 arms 1;halve takes 99;call her top his stay;slips her 50 his 50;"
            + "wish long 1 wide 1 front top;press 999;pair 99 learns 999;pile 60;#"};
        for (String text : faulty) {
            SheetByTwo x = told(ALL);
            folds(x, 7, 3);
            calls(x, 1, 1);
            x.image(0);
            fill(x, 0, 0, 0, 1, 2);
            long[] before = seen(x);
            due("linen() of " + text, tell(x, text), -4);
            stays("behind " + text, x, before);
            due("undo()", x.undo(), 3);
            due("back(0)", x.back(0), 0);
            due("what was done", x.count(6), 4);
        }
        for (SheetByTwo x : bare()) {
            due("a FAULT without a LINEN", tell(x, BASE + "press 0;"), -4);
            due("there is none", x.state(0), -100);
            due("count(8)", x.count(8), 0);
        }
    }

    private static void fault() {
        said(5, "Of the latest linen(), what 0: its FAULT, 0 without, 1: its place (NONE without).");
        SheetByTwo x = new SheetByTwo();
        String[] texts = {"", "towel", BASE, " " + BASE + "press 1000;", "", BASE + "pile 1;".repeat(7), " ", "linen"};
        int[] faults = {0, 1, 0, 2, 0, 3, 0, 1};
        int[] places = {NONE, 0, NONE, 49, NONE, 84, NONE, 5};
        for (int i = 0; i < texts.length; i++) {
            tell(x, texts[i]);
            due("fault(0) of " + texts[i], x.fault(0), faults[i]);
            due("fault(1) of " + texts[i], x.fault(1), places[i]);
            x.feed(BLANKS, BLANKS, BLANKS, BLANKS, BLANKS);
            x.end(0);
            x.image(i % 3);
            x.back((i + 1) % 3);
            x.fold(0);
            due("fault(0), still", x.fault(0), faults[i]);
            due("fault(1), still", x.fault(1), places[i]);
        }
    }

    private static void faultNone() {
        said(5, "NONE for another what, and ahead of any (what 1).");
        SheetByTwo x = new SheetByTwo();
        due("fault(1) ahead of any", x.fault(1), NONE);
        due("fault(0) ahead of any", x.fault(0), 0);
        feedText(x, "towel");
        due("fault(1) of what is not read", x.fault(1), NONE);
        for (int told = 0; told < 3; told++) {
            for (int what : new int[] {-1, 2, 3, LOW, HIGH}) {
                due("fault(" + what + ")", x.fault(what), NONE);
            }
            tell(x, told == 0 ? "towel" : BASE);
        }
    }

    private static void stateCodes() {
        said(6, "-100: there is no such what, no LINEN.");
        SheetByTwo x = told(ALL);
        for (int what : new int[] {-1, 8, 9, LOW, HIGH}) {
            due("state(" + what + ")", x.state(what), -100);
        }
        for (int what = 0; what < 8; what++) {
            due("state(" + what + ")", x.state(what) == -100 ? 1 : 0, 0);
        }
        for (SheetByTwo bare : bare()) {
            for (int what = -1; what <= 8; what++) {
                due("state(" + what + ") without LINEN", bare.state(what), -100);
            }
        }
    }

    private static void can() {
        said(7, "Whether a MOVE can be done now: 1, 0.");
        SheetByTwo x = told(ALL);
        for (int move = 0; move < 10; move++) {
            due("can(" + move + ")", x.can(move), move == 9 ? 0 : 1);
        }
        for (int i = 0; i < 60; i++) {
            x.fold(7);
        }
        due("behind 60", x.can(7), 1);
        calls(told(ALL), 1);
        x = told(sheet(1, 1, 1));
        for (int move = 0; move < 10; move++) {
            due("can(" + move + ") of 1 by 1", x.can(move), move >= 6 && move <= 8 ? 1 : 0);
        }
    }

    private static void canCodes() {
        said(7, "-2: there is none such, no LINEN.");
        SheetByTwo x = told(ALL);
        for (int move : new int[] {-1, 10, 11, 12, LOW, HIGH}) {
            due("can(" + move + ")", x.can(move), -2);
        }
        for (SheetByTwo bare : bare()) {
            for (int move = -1; move <= 10; move++) {
                due("can(" + move + ") without LINEN", bare.can(move), -2);
            }
        }
    }

    private static void movesCodes() {
        said(8, "-2: there is no LINEN.");
        for (SheetByTwo bare : bare()) {
            due("moves() without LINEN", bare.moves(), -2);
        }
        due("moves() where none can be", told(sheet(2, 2, 1)).moves(), 0);
        due("moves() where nine can be", told(BASE).moves(), 511);
        SheetByTwo x = told(BASE + TWISTS);
        calls(x, 0);
        due("moves() where UNTWIST can be", x.moves(), 512);
    }

    private static void foldCant() {
        said(9, "-5: it can't be");
        SheetByTwo x = told(ALL);
        folds(x, 0, 3);
        long[] before = seen(x);
        for (int move : new int[] {0, 1, 3, 4, 5, 9}) {
            due("fold(" + move + ") of 3 by 3", x.fold(move), -5);
        }
        stays("what can't be", x, before);
        x = told(ALL);
        calls(x, 1);
        before = seen(x);
        for (int move = 0; move < 9; move++) {
            due("fold(" + move + ") twisted", x.fold(move), -5);
        }
        stays("what can't be twisted", x, before);
    }

    private static void foldSixty() {
        said(9, "there were 60 (MOVES, CALLS)");
        for (int callsOfThem : new int[] {0, 1, 30, 60}) {
            SheetByTwo x = told(BASE + "call her walk his top;");
            for (int i = 1; i <= 60; i++) {
                due("number " + i, i <= callsOfThem ? x.call(0) : x.fold(7), i <= callsOfThem ? 12 : 5);
            }
            int seconds = x.state(7);
            int hem = x.state(2);
            for (int move = 0; move < 10; move++) {
                due("fold(" + move + ") behind 60", x.fold(move), -5);
            }
            due("fold(10) behind 60", x.fold(10), -2);
            due("there are 60", x.count(6), 60);
            due("SECONDS stay", x.state(7), seconds);
            due("HEM stays", x.state(2), hem);
            due("led(59)", x.led(59), callsOfThem == 60 ? 12 : 7);
            due("led(60)", x.led(60), NONE);
            due("undo()", x.undo(), 59);
            due("the 60th again", x.fold(6), 5);
            due("the 61st again", x.fold(6), -5);
        }
    }

    private static void foldCodes() {
        said(9, "-2: there is none such, no LINEN.");
        SheetByTwo x = told(ALL);
        folds(x, 0);
        long[] before = seen(x);
        for (int move : new int[] {-1, 10, 11, 12, LOW, HIGH}) {
            due("fold(" + move + ")", x.fold(move), -2);
        }
        stays("no such MOVE", x, before);
        for (SheetByTwo bare : bare()) {
            for (int move = -1; move <= 10; move++) {
                due("fold(" + move + ") without LINEN", bare.fold(move), -2);
            }
            due("nothing is done", bare.count(6), 0);
        }
    }

    private static void callWithoutSlips() {
        said(10, "A CALL is done (without slips)");
        SheetByTwo x = told(sheet(48, 48, 48) + "slips her 50 his 50;call her top his top;call her bottom his bottom;" + TWISTS);
        for (int i = 0; i < 2; i++) {
            due("TOP", x.call(0), 0);
            due("a TWIST more", x.call(2), 10);
            due("a TWIST less", x.call(3), 11);
            due("BOTTOM", x.call(1), 1);
        }
        due("SECONDS", x.state(7), 40);
    }

    private static void callNothing() {
        said(10, "12: nothing (it is told as done; 0 SECONDS).");
        for (String text : new String[] {"top his walk", "walk his bottom", "stay his stay", "top his stay"}) {
            SheetByTwo x = told(sheet(7, 7, 1) + "call her " + text + ";");
            due("where nothing else can be", x.call(0), 12);
            due("told as done", x.count(6), 1);
            due("led(0)", x.led(0), 12);
            int[] first = {7, 7, 0, 0, 0, 1, 1, 0};
            for (int what = 0; what < 8; what++) {
                due("state(" + what + ")", x.state(what), first[what]);
            }
            due("undo()", x.undo(), 0);
        }
        SheetByTwo x = told(BASE + TWISTS + "call her stay his stay;halve takes 99;turn takes 99;");
        calls(x, 1, 1, 2);
        due("TWIST stays", x.state(4), -2);
        due("SECONDS", x.state(7), 198);
        due("told as done", x.count(6), 3);
    }

    private static void callCodes() {
        said(10, "-5: it can't be, there were 60; -2: there is none such.");
        String six = "call her top his top;call her top his bottom;call her bottom his top;call her walk his walk;"
            + "call her walk his stay;call her stay his walk;";
        int[] means = {0, 10, 11, 5, 3, 4};
        for (int call = 0; call < 6; call++) {
            for (String small : new String[] {sheet(5, 5, 5), sheet(6, 6, 5)}) {
                SheetByTwo x = told(small + six);
                long[] before = seen(x);
                due("call(" + call + ") of " + small, x.call(call), -5);
                stays("call(" + call + ")", x, before);
            }
            due("call(" + call + ")", told(sheet(6, 6, 6) + six).call(call), means[call]);
        }
        SheetByTwo x = told(sheet(6, 6, 6) + six);
        for (int call : new int[] {-1, 6, 7, LOW, HIGH}) {
            due("call(" + call + ") of six", x.call(call), -2);
        }
        calls(x, 1);
        for (int call : new int[] {0, 3, 4, 5}) {
            due("call(" + call + ") twisted", x.call(call), -5);
        }
        due("nothing more is done", x.count(6), 1);
        x = told(BASE + "call her top his walk;call her top his top;");
        for (int i = 0; i < 60; i++) {
            x.call(0);
        }
        due("nothing behind 60", x.call(0), -5);
        due("TOP behind 60", x.call(1), -5);
        due("none such behind 60", x.call(2), -2);
        due("there are 60", x.count(6), 60);
        due("WIDE stays", x.state(1), 6);
        for (int i = 0; i <= 6; i++) {
            due("call(" + i + ") of none", told(BASE).call(i), -2);
        }
        for (SheetByTwo bare : bare()) {
            due("call(0) without LINEN", bare.call(0), -2);
            due("nothing is done", bare.count(6), 0);
        }
    }

    private static void undo() {
        said(11, "how many there are.");
        SheetByTwo x = told(BASE + TWISTS + "call her walk his top;");
        int[][] states = new int[6][];
        for (int i = 0; i < 6; i++) {
            states[i] = stateOf(x);
            if (i < 3) {
                folds(x, new int[] {8, 2, 6}[i]);
            } else {
                calls(x, i == 5 ? 2 : 1);
            }
        }
        for (int left = 5; left >= 0; left--) {
            due("undo()", x.undo(), left);
            due("count(6)", x.count(6), left);
            for (int what = 0; what < 8; what++) {
                due("state(" + what + ") of " + left, x.state(what), states[left][what]);
            }
        }
        for (int i = 0; i < 60; i++) {
            x.fold(6);
        }
        for (int left = 59; left >= 0; left--) {
            due("undo() of sixty", x.undo(), left);
        }
        due("FACE", x.state(3), 0);
    }

    private static int[] stateOf(SheetByTwo x) {
        int[] all = new int[8];
        for (int what = 0; what < 8; what++) {
            all[what] = x.state(what);
        }
        return all;
    }

    private static void undoCodes() {
        said(11, "-5: there is none; -2: there is no LINEN.");
        SheetByTwo x = told(ALL);
        long[] before = seen(x);
        due("undo() of none", x.undo(), -5);
        stays("undo() of none", x, before);
        folds(x, 0);
        due("undo() of one", x.undo(), 0);
        due("undo() of none", x.undo(), -5);
        folds(x, 0);
        x.anew();
        due("undo() behind anew()", x.undo(), -5);
        folds(x, 0);
        tell(x, ALL);
        due("undo() behind linen()", x.undo(), -5);
        for (SheetByTwo bare : bare()) {
            due("undo() without LINEN", bare.undo(), -2);
        }
    }

    private static void led() {
        said(12, "The i-th of them (from 0): as call() tells.");
        SheetByTwo x = told(sheet(16, 8, 16) + "call her top his top;call her stay his stay;" + TWISTS);
        calls(x, 0, 1, 2);
        folds(x, 9, 1);
        calls(x, 3);
        folds(x, 9, 3, 4, 5, 6, 7, 8);
        int[] all = {0, 12, 10, 9, 1, 11, 9, 3, 4, 5, 6, 7, 8};
        for (int i = 0; i < all.length; i++) {
            due("led(" + i + ")", x.led(i), all[i]);
        }
        x.undo();
        folds(x, 6);
        due("another one in its place", x.led(12), 6);
    }

    private static void ledCodes() {
        said(12, "NONE: there is none such; -2: there is no LINEN.");
        SheetByTwo x = told(ALL);
        for (int i : new int[] {-1, 0, 1, 59, 60, LOW, HIGH}) {
            due("led(" + i + ") of none", x.led(i), NONE);
        }
        folds(x, 0, 6);
        due("led(1) of two", x.led(1), 6);
        for (int i : new int[] {-1, 2, 3, 59, 60, 61, LOW, HIGH}) {
            due("led(" + i + ") of two", x.led(i), NONE);
        }
        x.undo();
        due("led(1) behind undo()", x.led(1), NONE);
        due("led(0) behind undo()", x.led(0), 0);
        x.anew();
        due("led(0) behind anew()", x.led(0), NONE);
        for (SheetByTwo bare : bare()) {
            for (int i = -1; i <= 1; i++) {
                due("led(" + i + ") without LINEN", bare.led(i), -2);
            }
        }
    }

    private static void anew() {
        said(13, "All are taken back: how many there were.");
        for (int n : new int[] {0, 1, 59, 60}) {
            SheetByTwo x = told(ALL);
            long[] before = seen(x);
            for (int i = 0; i < n; i++) {
                x.fold(i % 2 + 6);
            }
            due("anew() of " + n, x.anew(), n);
            stays("anew() of " + n, x, before);
            due("anew() again", x.anew(), 0);
            due("undo()", x.undo(), -5);
        }
    }

    private static void anewCodes() {
        said(13, "-2: there is no LINEN.");
        for (SheetByTwo bare : bare()) {
            due("anew() without LINEN", bare.anew(), -2);
        }
        due("anew() of none", told(BASE).anew(), 0);
    }

    private static void plan() {
        said(14, "how many ahead of the first that can't be.");
        SheetByTwo x = told(ALL);
        long[][] rows = {{}, {9}, {0}, {0, 0}, {6, 9, 6}, {0, 3, 2, 8, 2, 0}, {7, 7, 7, 9}, sixty(7), sixty(9)};
        int[] ahead = {0, 0, 1, 1, 1, 5, 3, 60, 0};
        for (int i = 0; i < rows.length; i++) {
            fill(x, i % 4, i % 3, rows[i]);
            due("plan() of row " + i, x.plan(i % 4), ahead[i]);
        }
        long[] last = sixty(6);
        last[59] = 9;
        fill(x, 0, 3, last);
        due("all but the last one", x.plan(0), 59);
        due("nothing is done", x.count(6), 0);
        for (int i = 0; i < 60; i++) {
            x.fold(6);
        }
        fill(x, 0, 3, 6, 6, 9);
        due("behind 60", x.plan(0), 2);
    }

    private static void planCodes() {
        said(14, "-2: there is no such SLOT, no LINEN, a number is no MOVE (asked last)");
        SheetByTwo x = told(ALL);
        for (int slot : new int[] {-1, 4, 5, LOW, HIGH}) {
            due("plan(" + slot + ")", x.plan(slot), -2);
        }
        for (long no : new long[] {-1, 10, 12, 127, -128}) {
            for (int at = 0; at < 3; at++) {
                fill(x, 0, 0, 9, 9, 9);
                x.write(0, at, no);
                due(no + " as number " + at + " is no MOVE, though ahead of it one can't be", x.plan(0), -2);
            }
        }
        for (long no : new long[] {1L << 32, 1L << 63, -1, 10, HIGH, LOW, Long.MAX_VALUE}) {
            fill(x, 1, 3, 6, no);
            due(no + " is no MOVE", x.plan(1), -2);
        }
        for (int move = 0; move < 10; move++) {
            fill(x, 1, 3, move);
            due(move + " is a MOVE", x.plan(1), move == 9 ? 0 : 1);
        }
        for (SheetByTwo bare : bare()) {
            for (int slot = -1; slot <= 4; slot++) {
                due("plan(" + slot + ") without LINEN", bare.plan(slot), -2);
            }
        }
    }

    private static void planNothing() {
        said(14, "-6: it has nothing.");
        for (int slot = 0; slot < 4; slot++) {
            SheetByTwo x = told(ALL);
            due("plan(" + slot + ")", x.plan(slot), -6);
            x.row(slot, 0, 0);
            due("a row of no numbers is not nothing", x.plan(slot), 0);
            for (int other = 0; other < 4; other++) {
                due("plan(" + other + ")", x.plan(other), other == slot ? 0 : -6);
            }
        }
    }

    private static void after() {
        said(15, "(ahead of the first that can't be)");
        SheetByTwo x = told(ALL);
        folds(x, 7);
        fill(x, 0, 0, 0, 3, 9, 6, 7);
        int[] behind = {3, 3, 1, 0, 0, 4, 4, 14};
        for (int what = 0; what < 8; what++) {
            due("after(0, " + what + ")", x.after(0, what), behind[what]);
        }
        fill(x, 1, 1);
        fill(x, 2, 2, 9, 0);
        int[] now = {6, 6, 1, 0, 0, 1, 1, 5};
        for (int what = 0; what < 8; what++) {
            due("a row of none, " + what, x.after(1, what), now[what]);
            due("the first can't be, " + what, x.after(2, what), now[what]);
        }
        fill(x, 0, 0, sixty(6));
        due("sixty", x.after(0, 7), 305);
        fill(x, 0, 0, 0, 3);
        calls(x, 1);
        due("twisted", x.after(0, 4), 1);
        due("twisted", x.after(0, 1), 6);
        fill(x, 0, 0, 9, 0, 3);
        due("untwisted first", x.after(0, 0), 3);
    }

    private static void afterCodes() {
        said(15, "-100, -600: as -2, -6 there.");
        SheetByTwo x = told(ALL);
        for (int what = 0; what < 8; what++) {
            due("after(0, " + what + ") of nothing", x.after(0, what), -600);
        }
        due("no such what of nothing", x.after(0, 8), -100);
        due("no such what of nothing", x.after(0, -1), -100);
        fill(x, 0, 0, 0);
        for (int slot : new int[] {-1, 4, LOW, HIGH}) {
            due("after(" + slot + ", 0)", x.after(slot, 0), -100);
        }
        for (int slot = 1; slot < 4; slot++) {
            due("after(" + slot + ", 0)", x.after(slot, 0), -600);
        }
        for (int what : new int[] {-1, 8, LOW, HIGH}) {
            due("after(0, " + what + ")", x.after(0, what), -100);
        }
        for (long no : new long[] {-1, 10, 127, -128}) {
            fill(x, 0, 0, 9, 9, no);
            due(no + " is no MOVE", x.after(0, 0), -100);
        }
        fill(x, 0, 3, 1L << 32);
        due("2^32 is no MOVE", x.after(0, 0), -100);
        for (SheetByTwo bare : bare()) {
            for (int slot = -1; slot <= 4; slot++) {
                due("after(" + slot + ", 0) without LINEN", bare.after(slot, 0), -100);
            }
        }
    }
}
