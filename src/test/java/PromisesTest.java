import java.nio.charset.StandardCharsets;
import java.util.Arrays;

/** Each promise by hand: ordinary inputs, the edges that the document names, wrong inputs. */
public final class PromisesTest {
    private static final int NONE = SheetByTwo.NONE;
    private static final String BASE = "linen long 6 wide 6 thick 1 room 6 arms 6;";
    private static final String[] ACTS = {"top", "bottom", "walk", "stay"};
    private static final int LOW = Integer.MIN_VALUE;
    private static final int HIGH = Integer.MAX_VALUE;

    private static final int[] checks = new int[59];
    private static int wrong = 0;

    private static void due(int promise, String what, long got, long want) {
        checks[promise]++;
        if (got != want) {
            wrong++;
            System.out.println("promise " + promise + ": " + what + " answered " + got + ", due is " + want);
        }
    }

    private static void feedText(SheetByTwo x, String text) {
        byte[] bytes = Arrays.copyOf(text.getBytes(StandardCharsets.ISO_8859_1), (text.length() + 19) / 20 * 20);
        for (int i = 0; i < bytes.length; i += 20) {
            int[] v = new int[5];
            for (int k = 0; k < 20; k++) {
                v[k / 4] = v[k / 4] << 8 | bytes[i + k] & 255;
            }
            x.feed(v[0], v[1], v[2], v[3], v[4]);
        }
        x.end(text.length());
    }

    private static int tell(SheetByTwo x, String text) {
        feedText(x, text);
        return x.linen();
    }

    private static SheetByTwo told(String text) {
        SheetByTwo x = new SheetByTwo();
        int lines = tell(x, text);
        if (lines <= 0) {
            wrong++;
            System.out.println("not told (" + lines + "): " + text);
        }
        return x;
    }

    private static String sheet(int l, int w, int room) {
        return "linen long " + l + " wide " + w + " thick 1 room " + room + " arms 60;";
    }

    private static void fill(SheetByTwo x, int slot, int width, long... v) {
        x.row(slot, width, v.length);
        for (int i = 0; i < v.length; i++) {
            x.write(slot, i, v[i]);
        }
    }

    private static void folds(SheetByTwo x, int... moves) {
        for (int move : moves) {
            if (x.fold(move) < 0) {
                wrong++;
                System.out.println("a fold of " + Arrays.toString(moves) + " can't be");
            }
        }
    }

    public static void main(String[] args) {
        newObject();
        tape();
        linens();
        faults();
        states();
        moves();
        folding();
        calls();
        backAgain();
        plans();
        fewest();
        quickest();
        alone();
        rooms();
        parcels();
        ways();
        byCalls();
        chances();
        chancesOfRows();
        twisted();
        press();
        learning();
        piles();
        draws();
        counts();
        images();
        rows();
        for (int promise = 1; promise <= 58; promise++) {
            if (checks[promise] == 0) {
                wrong++;
                System.out.println("promise " + promise + " has no test");
            }
        }
        System.out.println(wrong == 0 ? "all promises are kept" : wrong + " answers are not as due");
        if (wrong != 0) {
            System.exit(1);
        }
    }

    private static void newObject() {
        SheetByTwo x = new SheetByTwo();
        for (int what = -1; what <= 8; what++) {
            due(1, "state(" + what + ")", x.state(what), -100);
            due(1, "count(" + what + ")", x.count(what), what < 0 ? NONE : 0);
        }
        due(1, "moves()", x.moves(), -2);
        due(1, "can(0)", x.can(0), -2);
        due(1, "fold(0)", x.fold(0), -2);
        due(1, "call(0)", x.call(0), -2);
        due(1, "undo()", x.undo(), -2);
        due(1, "led(0)", x.led(0), -2);
        due(1, "anew()", x.anew(), -2);
        int[] none = {x.fewest(), x.step(0), x.quickest(), x.quick(0), x.alone(), x.rail(0), x.brief(9), x.room(), x.best(),
            x.parcel(1, 1), x.parcels(), x.reach(0), x.most(), (int) x.ways(0), x.how(1, 0), x.means(0), x.called(), x.words(0),
            x.alike(), x.doubled(), x.right(0, 0), x.twists(0, 0), x.mend(0, 0), (int) x.chance(0, 0), x.out(0), x.fits(),
            x.packs(0, 0), x.thin(), x.learn(0, 1), x.skilled(0, 1), x.soonest(1), x.friday(), x.given(0), x.helps(0),
            x.slipped(0, 0), x.years(0, 1, 0), x.plan(0)};
        for (int i = 0; i < none.length; i++) {
            due(1, "question " + i + " without LINEN", none[i], -2);
        }
        due(1, "after(0, 0)", x.after(0, 0), -100);
        due(1, "drawn(0, 0, 0)", x.drawn(0, 0, 0), -100);
    }

    private static void tape() {
        SheetByTwo x = new SheetByTwo();
        for (int i = 1; i <= 50; i++) {
            due(2, "feed " + i, x.feed(i, -1, LOW, HIGH, 0), 20 * i);
        }
        due(2, "a 51st feed", x.feed(1, 2, 3, 4, 5), NONE);
        due(2, "bytes behind it", x.count(9), 1000);
        due(3, "end(1001)", x.end(1001), NONE);
        due(3, "end(-1)", x.end(-1), NONE);
        due(3, "end(LOW)", x.end(LOW), NONE);
        due(3, "bytes behind them", x.count(9), 1000);
        due(3, "end(1000)", x.end(1000), 1000);
        due(3, "end(981)", x.end(981), 981);
        due(2, "feed at 981", x.feed(0, 0, 0, 0, 0), NONE);
        due(3, "end(980)", x.end(980), 980);
        due(2, "feed at 980", x.feed(0, 0, 0, 0, 0), 1000);
        due(3, "end(0)", x.end(0), 0);
        due(3, "end(1)", x.end(1), NONE);
        due(2, "feed at 0", x.feed(0x70726573, 0x73203132, 0, 0, 0), 20);
        x.end(0);
        x.feed(0x6c696e65, 0x6e206c6f, 0x6e672036, 0x20776964, 0x65203520);
        x.feed(0x74686963, 0x6b203120, 0x726f6f6d, 0x20362061, 0x726d7320);
        x.feed(0x363b2020, 0x20202020, 0x20202020, 0x20202020, 0x20202020);
        due(2, "the highest byte first", x.linen(), 1);
        due(2, "the bytes behind one another", x.state(1), 5);
    }

    private static void linens() {
        SheetByTwo x = new SheetByTwo();
        due(4, "no text", x.linen(), 0);
        due(4, "two lines", tell(x, "linen long 4 wide 2 thick 1 room 9 arms 8;press 7;"), 2);
        due(4, "the TAPE behind it", x.count(9), 0);
        due(4, "room", x.count(3), 9);
        due(4, "arms", x.count(4), 8);
        folds(x, 0);
        due(4, "a FAULT", tell(x, "linen long 5 wide 5 thick 1 room 5 arms 5;press"), -4);
        due(4, "the TAPE behind a FAULT", x.count(9), 0);
        due(4, "WIDE stays", x.state(1), 1);
        due(4, "press stays", x.count(5), 7);
        due(4, "what was done stays", x.count(6), 1);
        due(4, "another one", tell(x, "linen long 6 wide 8 thick 1 room 9 arms 9;"), 1);
        due(4, "its LONG", x.state(0), 6);
        due(4, "press is none then", x.count(5), 0);
        due(4, "nothing done", x.count(6), 0);
        due(4, "no SECONDS", x.state(7), 0);
        due(4, "blanks alone", tell(x, " \n "), 0);
        due(4, "there is none then", x.state(0), -100);
        due(4, "a tight text", tell(x, "linen long007wide6thick1room60arms60;\n\npair99learns999;"), 2);
        due(4, "its LONG", x.state(0), 7);
        x = told(BASE + "halve takes 1;halve takes 99;slips her 1 his 2;slips her 50 his 0;press 1;press 999;"
            + "wish long 1 wide 1 front top;wish long 6 wide 6 front top;call her top his top;");
        due(4, "a later takes strikes", x.fold(0), 99);
        due(4, "a later press strikes", x.count(5), 999);
        due(4, "later slips strike", x.right(0, 1), 2);
        x.anew();
        due(4, "a later wish strikes", x.fewest(), 0);
        due(4, "sizes at their bounds", tell(x, "linen long 48 wide 48 thick 9 room 60 arms 60;wish long 48 wide 48 back in;"
            + "pile 60;pile 1;pair 1 learns 0;untwist takes 99;"), 6);
    }

    private static void faultOf(String text, int code, int place) {
        SheetByTwo x = new SheetByTwo();
        due(4, "linen() of " + text, tell(x, text) == -4 ? 1 : 0, code == 0 ? 0 : 1);
        due(5, "fault(0) of " + text, x.fault(0), code);
        due(5, "fault(1) of " + text, x.fault(1), place);
    }

    private static void faults() {
        SheetByTwo x = new SheetByTwo();
        due(5, "fault(0) ahead of any", x.fault(0), 0);
        due(5, "fault(1) ahead of any", x.fault(1), NONE);
        due(5, "fault(2)", x.fault(2), NONE);
        due(5, "fault(-1)", x.fault(-1), NONE);
        tell(x, "towel");
        due(5, "fault(0)", x.fault(0), 1);
        due(5, "fault(2) with one", x.fault(2), NONE);
        tell(x, BASE);
        due(5, "fault(0) behind a good one", x.fault(0), 0);
        due(5, "fault(1) behind a good one", x.fault(1), NONE);
        feedText(x, "linen long 48");
        x.end(12);
        due(5, "cut within a number", x.linen(), -4);
        due(5, "the end's place", x.fault(1), 12);
        feedText(x, "linen    ");
        x.end(5);
        due(5, "cut ahead of blanks", x.linen(), -4);
        due(5, "the end's place", x.fault(1), 5);
        feedText(x, " ".repeat(995) + "linen");
        due(5, "a full TAPE", x.linen(), -4);
        due(5, "its end's place", x.fault(1), 1000);
        feedText(x, BASE + "x");
        x.end(42);
        due(5, "cut behind the sign", x.linen(), 1);
        faultOf("", 0, NONE);
        faultOf("linen", 1, 5);
        faultOf(BASE.substring(0, 41), 1, 41);
        faultOf(BASE.substring(0, 41) + " \n", 1, 43);
        faultOf("Linen", 1, 0);
        faultOf("linens", 1, 0);
        faultOf("linenz", 1, 0);
        faultOf(";", 1, 0);
        faultOf(" 5", 1, 1);
        faultOf("press 5;" + BASE, 1, 0);
        faultOf(" \nlinen wide", 1, 8);
        faultOf("linen long x", 1, 11);
        faultOf("linen long ;", 1, 11);
        faultOf("linen long 0", 2, 11);
        faultOf("linen long 49", 2, 11);
        faultOf("linen long 4294967302", 2, 11);
        faultOf("linen long 18446744073709551622", 2, 11);
        faultOf("linen long 6 wide 49", 2, 18);
        faultOf("linen long 6 wide 6 thick 10", 2, 26);
        faultOf("linen long 6 wide 6 thick 9 room 61", 2, 33);
        faultOf("linen long 6 wide 6 thick 9 room 1 arms 0", 2, 40);
        faultOf("linen long 6\twide", 1, 12);
        faultOf("linen long 6\rwide", 1, 12);
        faultOf("linen long 6 " + (char) 228 + "wide", 1, 13);
        faultOf(BASE + "linen", 1, 42);
        faultOf(BASE + BASE, 1, 42);
        faultOf(BASE + ";", 1, 42);
        faultOf(BASE + "12", 1, 42);
        faultOf(BASE + "takes 5", 1, 42);
        faultOf(BASE + "halve takes 100", 2, 54);
        faultOf(BASE + "untwist take 1", 1, 50);
        faultOf(BASE + "wish long 49", 2, 52);
        faultOf(BASE + "wish long 1 wide 0", 2, 59);
        faultOf(BASE + "wish long 1 wide 1 top", 1, 61);
        faultOf(BASE + "wish long 1 wide 1 either either", 1, 68);
        faultOf(BASE + "wish long 1 wide 1 either any any", 1, 72);
        faultOf(BASE + "slips her 50 his 51", 2, 59);
        faultOf(BASE + "slips her 51", 2, 52);
        faultOf(BASE + "slips her 0 his 0;", 0, NONE);
        faultOf(BASE + "slips his", 1, 48);
        faultOf(BASE + "pair 100", 2, 47);
        faultOf(BASE + "pair 99 learns 1000", 2, 57);
        faultOf(BASE + "press 1000", 2, 48);
        faultOf(BASE + "press 5 6", 1, 50);
        faultOf(BASE + "pile 0", 2, 47);
        faultOf(BASE + "pile 60;pile 61", 2, 55);
        faultOf(BASE + "call her walk his run", 1, 60);
        faultOf(BASE + "call his", 1, 47);
        faultOf(BASE + "call her left", 1, 51);
        String six = "call her top his top;".repeat(6);
        faultOf(BASE + six, 0, NONE);
        faultOf(BASE + six + "call", 3, 168);
        faultOf(BASE + six + "call 9", 3, 168);
        faultOf(BASE + six + "her", 1, 168);
        faultOf(BASE + six + "press call", 1, 174);
        faultOf(BASE + "pair 1 learns 0;".repeat(4) + "pair 0", 3, 106);
        faultOf(BASE + "pile 1;".repeat(6) + "pile", 3, 84);
        faultOf(BASE + "pile 1;".repeat(6) + "pair 1 learns 0;", 0, NONE);
        faultOf(BASE + "press 0;" + "Q", 2, 48);
    }

    private static void states() {
        SheetByTwo x = told("linen long 12 wide 6 thick 3 room 12 arms 6;third takes 8;");
        int[] first = {12, 6, 0, 0, 0, 1, 3, 0};
        for (int what = 0; what < 8; what++) {
            due(6, "state(" + what + ") at first", x.state(what), first[what]);
        }
        folds(x, 2);
        int[] then = {12, 2, 4, 1, 0, 3, 9, 8};
        for (int what = 0; what < 8; what++) {
            due(6, "state(" + what + ") behind THIRD", x.state(what), then[what]);
        }
        folds(x, 4);
        due(6, "LAYERS", x.state(5), 6);
        due(6, "how thick", x.state(6), 18);
        due(6, "SECONDS", x.state(7), 13);
        due(6, "state(8)", x.state(8), -100);
        due(6, "state(-1)", x.state(-1), -100);
        due(6, "state(LOW)", x.state(LOW), -100);
    }

    private static void moves() {
        SheetByTwo x = told(sheet(10, 6, 9) + "call her bottom his top;");
        due(8, "LONG above the room", x.moves(), 256);
        due(7, "can(8)", x.can(8), 1);
        due(7, "can(6)", x.can(6), 0);
        due(7, "can(9)", x.can(9), 0);
        due(7, "can(10)", x.can(10), -2);
        due(7, "can(-1)", x.can(-1), -2);
        due(7, "can(HIGH)", x.can(HIGH), -2);
        folds(x, 8);
        due(8, "WIDE above the room", x.moves(), 251);
        due(7, "can(8) then", x.can(8), 0);
        due(7, "can(2) of 10", x.can(2), 0);
        x.call(0);
        due(8, "twisted", x.moves(), 512);
        due(7, "can(9) twisted", x.can(9), 1);
        due(7, "can(6) twisted", x.can(6), 0);
        due(8, "9 by 3", told(sheet(9, 3, 9)).moves(), 4 + 64 + 128 + 256);
        due(8, "1 by 1", told(sheet(1, 1, 1)).moves(), 64 + 128 + 256);
        due(8, "no room at all", told(sheet(2, 2, 1)).moves(), 0);
        due(8, "no LINEN", new SheetByTwo().moves(), -2);
    }

    /** 36 by 36, the HEM where it is wished, FACE front but for in. */
    private static SheetByTwo hemAt(int hem) {
        SheetByTwo x = told("linen long 36 wide 36 thick 1 room 60 arms 6;halve takes 1;third takes 2;meet takes 3;"
            + "turn takes 4;quarter takes 6;untwist takes 7;");
        int[][] rows = {{}, {7}, {7, 8}, {8}, {2}};
        folds(x, rows[hem]);
        return x;
    }

    private static void folding() {
        int[][] hems = {{1, 1, 2, 3, 4}, {0, 0, 2, 3, 4}, {4, 4, 2, 3, 4}, {0, 1, 3, 3, 4}, {0, 1, 2, 2, 4}, {0, 1, 4, 4, 4},
            {1, 0, 2, 3, 4}, {1, 0, 3, 2, 4}, {3, 2, 0, 1, 4}};
        int[] faces = {1, 0, 1, 1, 0, 1, 1, 0, 0};
        int[] seconds = {1, 1, 2, 3, 3, 3, 4, 4, 6};
        for (int move = 0; move < 9; move++) {
            for (int hem = 0; hem < 5; hem++) {
                SheetByTwo x = hemAt(hem);
                String name = "MOVE " + move + " of HEM " + hem;
                due(9, name + ": HEM ahead", x.state(2), hem);
                int l = x.state(0);
                int w = x.state(1);
                int face = x.state(3);
                due(9, name, x.fold(move), seconds[move]);
                due(9, name + ": LONG", x.state(0), move == 8 ? w : move >= 3 && move <= 5 ? l / 2 : l);
                due(9, name + ": WIDE", x.state(1), move == 8 ? l : move <= 1 ? w / 2 : move == 2 ? w / 3 : w);
                due(9, name + ": HEM", x.state(2), hems[move][hem]);
                due(9, name + ": FACE", x.state(3), face ^ faces[move]);
                due(9, name + ": TWIST", x.state(4), 0);
            }
        }
        SheetByTwo x = told(BASE);
        due(9, "takes 5 without", x.fold(7), 5);
        due(9, "fold(9) untwisted", x.fold(9), -5);
        due(9, "fold(10)", x.fold(10), -2);
        due(9, "fold(-1)", x.fold(-1), -2);
        due(9, "count", x.count(6), 1);
        for (int i = 2; i <= 60; i++) {
            due(9, "fold " + i, x.fold(6), 5);
        }
        due(9, "a 61st", x.fold(6), -5);
        due(9, "it is refused", x.count(6), 60);
        due(7, "it can be all the same", x.can(6), 1);
        due(9, "fold(11) behind 60", x.fold(11), -2);
    }

    private static void calls() {
        int[] means = {0, 10, 12, 12, 11, 1, 12, 12, 12, 12, 5, 3, 12, 12, 4, 12};
        for (int i = 0; i < 16; i++) {
            String text = "call her " + ACTS[i / 4] + " his " + ACTS[i % 4] + ";";
            SheetByTwo x = told(BASE + text + "halve takes 9;meet takes 8;");
            due(31, "means of " + text, x.means(0), means[i]);
            due(10, text, x.call(0), means[i]);
            due(10, text + " LONG", x.state(0), means[i] >= 3 && means[i] <= 5 ? 3 : 6);
            due(10, text + " WIDE", x.state(1), means[i] <= 1 ? 3 : 6);
            due(10, text + " TWIST", x.state(4), means[i] == 10 ? 1 : means[i] == 11 ? -1 : 0);
            due(10, text + " SECONDS", x.state(7), means[i] == 12 ? 0 : means[i] >= 3 && means[i] <= 5 ? 8 : 9);
            due(12, text + " led", x.led(0), means[i]);
        }
        SheetByTwo x = told(BASE + "call her top his bottom;call her bottom his top;call her stay his stay;call her top his top;");
        due(10, "a TWIST more", x.call(0), 10);
        due(10, "two", x.call(0), 10);
        due(10, "three can't be", x.call(0), -5);
        due(10, "TOP twisted can't be", x.call(3), -5);
        due(10, "nothing can be", x.call(2), 12);
        due(9, "UNTWIST", x.fold(9), 5);
        due(10, "TWIST", x.state(4), 1);
        for (int i = 0; i < 3; i++) {
            due(10, "a TWIST less", x.call(1), 11);
        }
        due(10, "TWIST", x.state(4), -2);
        due(10, "below can't be", x.call(1), -5);
        due(9, "UNTWIST from below", x.fold(9), 5);
        due(9, "TWIST then", x.state(4), -1);
        due(10, "call(4)", x.call(4), -2);
        due(10, "call(-1)", x.call(-1), -2);
        due(31, "means(4)", x.means(4), -2);
        due(31, "means(-1)", x.means(-1), -2);
        x = told(sheet(7, 5, 9) + "call her top his bottom;call her walk his walk;");
        due(10, "a TWIST of odd WIDE", x.call(0), -5);
        due(10, "BOTH of odd LONG", x.call(1), -5);
        due(31, "means all the same", x.means(1), 5);
        x = told(sheet(8, 8, 7) + "call her top his bottom;call her stay his top;");
        due(10, "a TWIST in a small room", x.call(0), -5);
        for (int i = 0; i < 60; i++) {
            due(10, "nothing in a small room", x.call(1), 12);
        }
        due(10, "a 61st", x.call(1), -5);
        due(10, "call(2) behind 60", x.call(2), -2);
    }

    private static void backAgain() {
        SheetByTwo x = told(BASE + "call her top his bottom;halve takes 3;");
        due(11, "undo of nothing", x.undo(), -5);
        due(13, "anew of nothing", x.anew(), 0);
        due(12, "led(0) of nothing", x.led(0), NONE);
        folds(x, 8, 2, 6, 3);
        due(11, "undo", x.undo(), 3);
        due(11, "LONG", x.state(0), 6);
        due(11, "HEM", x.state(2), 3);
        due(11, "FACE", x.state(3), 0);
        due(11, "SECONDS", x.state(7), 15);
        due(12, "led(2)", x.led(2), 6);
        due(12, "led(3)", x.led(3), NONE);
        due(12, "led(-1)", x.led(-1), NONE);
        due(11, "undo", x.undo(), 2);
        due(11, "FACE of THIRD", x.state(3), 1);
        due(11, "undo", x.undo(), 1);
        due(11, "WIDE", x.state(1), 6);
        due(10, "call", x.call(0), 10);
        due(11, "undo of a TWIST", x.undo(), 1);
        due(11, "TWIST", x.state(4), 0);
        due(11, "SECONDS", x.state(7), 5);
        folds(x, 6, 6);
        due(13, "anew", x.anew(), 3);
        due(13, "HEM", x.state(2), 0);
        due(13, "SECONDS", x.state(7), 0);
        due(13, "count", x.count(6), 0);
        due(11, "no LINEN", new SheetByTwo().undo(), -2);
        due(12, "no LINEN", new SheetByTwo().led(0), -2);
        due(13, "no LINEN", new SheetByTwo().anew(), -2);
    }

    private static void plans() {
        SheetByTwo x = told("linen long 12 wide 8 thick 2 room 12 arms 6;halve takes 4;");
        due(14, "an empty SLOT", x.plan(1), -6);
        due(15, "an empty SLOT", x.after(1, 0), -600);
        due(15, "an empty SLOT, no such what", x.after(1, 8), -100);
        due(14, "plan(4)", x.plan(4), -2);
        due(14, "plan(-1)", x.plan(-1), -2);
        due(15, "after(4, 0)", x.after(4, 0), -100);
        folds(x, 6);
        fill(x, 0, 0, 0, 8, 4, 2, 2);
        due(14, "plan ahead of a second THIRD", x.plan(0), 4);
        due(15, "LONG", x.after(0, 0), 2);
        due(15, "WIDE", x.after(0, 1), 4);
        due(15, "HEM", x.after(0, 2), 2);
        due(15, "FACE", x.after(0, 3), 1);
        due(15, "LAYERS", x.after(0, 5), 12);
        due(15, "how thick", x.after(0, 6), 24);
        due(15, "SECONDS with those gone", x.after(0, 7), 24);
        due(14, "the STATE stays", x.state(0), 12);
        due(14, "what was done stays", x.count(6), 1);
        due(15, "after(0, -1)", x.after(0, -1), -100);
        x.write(0, 4, 10);
        due(14, "10 is no MOVE", x.plan(0), -2);
        due(15, "10 is no MOVE", x.after(0, 0), -100);
        x.write(0, 4, -1);
        due(14, "-1 is no MOVE", x.plan(0), -2);
        x.row(2, 3, 1);
        x.write(2, 0, 1L << 32);
        due(14, "2^32 is no MOVE", x.plan(2), -2);
        x.row(3, 0, 0);
        due(14, "a row of none", x.plan(3), 0);
        due(15, "a row of none", x.after(3, 7), 5);
        fill(x, 1, 1, 9);
        due(14, "none can be", x.plan(1), 0);
        SheetByTwo y = told(BASE);
        for (int i = 0; i < 60; i++) {
            y.fold(7);
        }
        fill(y, 0, 2, 6, 6, 6);
        due(14, "behind 60", y.plan(0), 3);
    }

    private static void fewest() {
        SheetByTwo x = told(BASE + "wish long 6 wide 6 back top;call her top his bottom;");
        due(16, "fewest", x.fewest(), 2);
        due(17, "step(0)", x.step(0), 6);
        due(17, "step(1)", x.step(1), 7);
        due(17, "step(2)", x.step(2), NONE);
        due(17, "step(-1)", x.step(-1), NONE);
        x.call(0);
        x.call(0);
        due(16, "twisted", x.fewest(), 4);
        due(17, "untwisted first", x.step(0), 9);
        due(17, "then again", x.step(1), 9);
        due(17, "then folded", x.step(2), 6);
        x = told(BASE + "wish long 3 wide 6 front any;");
        due(16, "HIS", x.fewest(), 1);
        due(17, "HIS", x.step(0), 4);
        x = told(BASE + "wish long 3 wide 6 back any;");
        due(17, "HERS ahead of BOTH", x.step(0), 3);
        x = told(BASE + "wish long 6 wide 6 front top;");
        due(16, "as it is", x.fewest(), 0);
        due(17, "as it is", x.step(0), NONE);
        x = told(BASE + "wish long 6 wide 6 front in;");
        due(16, "no way", x.fewest(), NONE);
        due(17, "no way", x.step(0), NONE);
        x = told(BASE + "wish long 5 wide 6 either any;");
        due(16, "no such size", x.fewest(), NONE);
        x = told(BASE + "wish long 6 wide 3 front top;");
        due(16, "BOTTOM", x.fewest(), 1);
        due(17, "BOTTOM", x.step(0), 1);
        x = told(BASE + "wish long 2 wide 3 either in;");
        due(16, "THIRD, QUARTER, TOP and the like", x.fewest(), 3);
        due(17, "first HERS", x.step(0), 2);
        x = told(BASE);
        due(16, "no wish", x.fewest(), -2);
        due(17, "no wish", x.step(0), -2);
    }

    private static void quickest() {
        SheetByTwo x = told(BASE + "wish long 6 wide 3 either any;halve takes 99;quarter takes 1;meet takes 1;");
        due(16, "one MOVE is fewest", x.fewest(), 1);
        due(18, "two are quickest", x.quickest(), 2);
        due(19, "HERS", x.quick(0), 3);
        due(19, "QUARTER", x.quick(1), 8);
        due(19, "no third one", x.quick(2), NONE);
        due(19, "quick(-1)", x.quick(-1), NONE);
        x = told(BASE + "wish long 6 wide 3 either any;halve takes 2;quarter takes 1;meet takes 1;");
        due(18, "of one time", x.quickest(), 2);
        due(19, "the least row", x.quick(0), 0);
        due(19, "and no more", x.quick(1), NONE);
        x = told(BASE + "wish long 6 wide 6 front right;turn takes 99;quarter takes 30;");
        due(18, "one QUARTER", x.quickest(), 30);
        x = told(BASE + "wish long 6 wide 6 front left;turn takes 99;quarter takes 30;");
        due(18, "three QUARTERS", x.quickest(), 90);
        due(16, "ROUND, QUARTER", x.fewest(), 2);
        due(19, "a third QUARTER", x.quick(2), 8);
        x = told(BASE + "wish long 6 wide 6 front top;");
        due(18, "as it is", x.quickest(), 0);
        due(19, "as it is", x.quick(0), NONE);
        x = told(BASE + "wish long 5 wide 5 either any;");
        due(18, "no way", x.quickest(), NONE);
        due(19, "no way", x.quick(0), NONE);
        x = told(BASE + "wish long 6 wide 3 back bottom;");
        due(18, "TOP", x.quickest(), 5);
        due(19, "TOP", x.quick(0), 0);
        due(18, "as it is, without room", told(sheet(6, 6, 5) + "wish long 6 wide 6 front top;").quickest(), 0);
        due(18, "no wish", told(BASE).quickest(), -2);
        due(19, "no wish", told(BASE).quick(0), -2);
    }

    private static void alone() {
        SheetByTwo x = told("linen long 12 wide 8 thick 1 room 1 arms 6;wish long 6 wide 4 either any;");
        due(16, "no room for two", x.fewest(), NONE);
        due(20, "alone", x.alone(), 2);
        due(21, "HERS first", x.rail(0), 3);
        due(21, "then TOP", x.rail(1), 0);
        due(21, "rail(2)", x.rail(2), NONE);
        due(21, "rail(-1)", x.rail(-1), NONE);
        x = told("linen long 6 wide 12 thick 1 room 60 arms 5;wish long 6 wide 4 either any;");
        due(16, "THIRD", x.fewest(), 1);
        due(20, "short arms: never 6 long and 4 wide", x.alone(), NONE);
        due(21, "nothing", x.rail(0), NONE);
        x = told("linen long 6 wide 12 thick 1 room 60 arms 6;wish long 6 wide 4 either any;");
        due(20, "arms enough", x.alone(), 1);
        due(21, "THIRD", x.rail(0), 2);
        x = told("linen long 6 wide 5 thick 1 room 60 arms 6;wish long 3 wide 5 front top;");
        due(16, "HIS", x.fewest(), 1);
        due(20, "HERS, TURN, ROUND", x.alone(), 3);
        due(21, "HERS", x.rail(0), 3);
        due(21, "TURN", x.rail(1), 6);
        x = told("linen long 6 wide 5 thick 1 room 1 arms 1;wish long 5 wide 6 front right;");
        due(20, "QUARTER, whatever the room", x.alone(), 1);
        due(21, "QUARTER", x.rail(0), 8);
        x = told("linen long 6 wide 4 thick 1 room 60 arms 6;wish long 6 wide 2 either any;");
        due(20, "arms 6", x.alone(), 1);
        tell(x, "linen long 6 wide 4 thick 1 room 60 arms 5;wish long 6 wide 2 either any;");
        due(20, "arms 5: QUARTER, HERS, QUARTER", x.alone(), 3);
        due(20, "no wish", told(BASE).alone(), -2);
        due(21, "no wish", told(BASE).rail(0), -2);
    }

    private static void rooms() {
        SheetByTwo x = told(sheet(8, 4, 60) + "wish long 4 wide 2 either any;");
        due(22, "brief(8)", x.brief(8), 2);
        due(22, "brief(7)", x.brief(7), 3);
        due(22, "brief(4)", x.brief(4), 3);
        due(22, "brief(3)", x.brief(3), NONE);
        due(22, "brief(1)", x.brief(1), NONE);
        due(22, "brief(60)", x.brief(60), 2);
        due(22, "brief(0)", x.brief(0), -2);
        due(22, "brief(61)", x.brief(61), -2);
        due(23, "room", x.room(), 4);
        due(24, "best", x.best(), 8);
        x = told(sheet(8, 4, 1) + "wish long 8 wide 4 front top;");
        due(23, "as it is", x.room(), 1);
        due(24, "as it is", x.best(), 1);
        x = told(sheet(48, 48, 1) + "wish long 24 wide 48 either any;");
        due(16, "no room", x.fewest(), NONE);
        due(23, "all of it", x.room(), 48);
        due(24, "all of it", x.best(), 48);
        x = told(sheet(8, 4, 60) + "wish long 7 wide 7 either any;");
        due(22, "no way", x.brief(60), NONE);
        due(23, "no way", x.room(), NONE);
        due(24, "no way", x.best(), NONE);
        due(22, "no wish", told(BASE).brief(6), -2);
        due(23, "no wish", told(BASE).room(), -2);
        due(24, "no wish", told(BASE).best(), -2);
    }

    private static void parcels() {
        SheetByTwo x = told(sheet(8, 4, 60) + "call her top his bottom;");
        due(25, "as it is", x.parcel(8, 4), 0);
        due(25, "QUARTER", x.parcel(4, 8), 1);
        due(25, "TOP", x.parcel(8, 2), 1);
        due(25, "all folds", x.parcel(1, 1), 5);
        due(25, "no way", x.parcel(3, 3), NONE);
        due(25, "(48, 48)", x.parcel(48, 48), NONE);
        due(25, "(0, 1)", x.parcel(0, 1), -2);
        due(25, "(49, 1)", x.parcel(49, 1), -2);
        due(25, "(1, 0)", x.parcel(1, 0), -2);
        due(25, "(1, 49)", x.parcel(1, 49), -2);
        x.call(0);
        due(25, "twisted, as it is", x.parcel(8, 4), 1);
        folds(x, 9, 0);
        due(25, "never back", x.parcel(8, 4), NONE);
        due(26, "2 by 1", told(sheet(2, 1, 9)).parcels(), 3);
        due(26, "1 by 1", told(sheet(1, 1, 9)).parcels(), 1);
        due(26, "2 by 1, room 1", told(sheet(2, 1, 1)).parcels(), 3);
        due(26, "2 by 2, room 1", told(sheet(2, 2, 1)).parcels(), 1);
        due(26, "3 by 1", told(sheet(3, 1, 3)).parcels(), 3);
        x = told(sheet(36, 48, 60));
        due(26, "36 by 48, the most", x.parcels(), 144);
        due(27, "its STATES", x.reach(20), 612);
        folds(x, 3, 3, 2, 0, 0, 0);
        due(26, "9 by 2 then: 9, 3, 1 and 2, 1, and so turned", x.parcels(), 11);
        x = told(sheet(2, 1, 9));
        folds(x, 3);
        due(26, "from now on", x.parcels(), 1);
        x = told(sheet(1, 1, 9));
        due(27, "reach(0)", x.reach(0), 1);
        due(27, "reach(1)", x.reach(1), 4);
        due(27, "reach(2)", x.reach(2), 8);
        due(27, "reach(20)", x.reach(20), 8);
        due(27, "reach(21)", x.reach(21), -2);
        due(27, "reach(-1)", x.reach(-1), -2);
        x = told(sheet(2, 2, 9) + "call her bottom his top;");
        x.call(0);
        x.call(0);
        due(27, "twisted, 0", x.reach(0), 1);
        due(27, "twisted, 1", x.reach(1), 2);
        due(27, "twisted, 2", x.reach(2), 3);
        due(27, "48 by 32, the most", told(sheet(48, 32, 60)).reach(20), 630);
        due(28, "12 by 8", told(sheet(12, 8, 60)).most(), 96);
        due(28, "5 by 7", told(sheet(5, 7, 60)).most(), 1);
        due(28, "10 by 6", told(sheet(10, 6, 9)).most(), 12);
        due(28, "10 by 6, room 5", told(sheet(10, 6, 5)).most(), 1);
        due(28, "no LINEN", new SheetByTwo().most(), -2);
    }

    private static void ways() {
        SheetByTwo x = told(sheet(1, 1, 9));
        due(29, "ways(0)", x.ways(0), 1);
        due(29, "ways(1)", x.ways(1), 0);
        due(29, "ways(2)", x.ways(2), 2);
        due(29, "ways(4)", x.ways(4), 11);
        due(29, "ways(12)", x.ways(12), 66431);
        due(29, "ways(0) without room", told(sheet(2, 2, 1)).ways(0), 1);
        due(29, "ways(-1)", x.ways(-1), -2);
        due(29, "ways(13)", x.ways(13), -2);
        due(30, "how(2, 0)", x.how(2, 0), 6);
        due(30, "how(2, 1)", x.how(2, 1), 6);
        due(30, "how(2, 2)", x.how(2, 2), NONE);
        due(30, "how(2, -1)", x.how(2, -1), NONE);
        due(30, "how(1, 0)", x.how(1, 0), NONE);
        due(30, "how(0, 0)", x.how(0, 0), NONE);
        due(30, "how(13, 0)", x.how(13, 0), -2);
        due(30, "how(-1, 0)", x.how(-1, 0), -2);
        folds(x, 8);
        due(29, "ways(0) elsewhere", x.ways(0), 0);
        due(29, "QUARTER", x.ways(1), 1);
        due(30, "QUARTER", x.how(1, 0), 8);
        x = told(sheet(2, 2, 9) + "call her top his bottom;");
        folds(x, 5);
        due(29, "HERS or BOTH", x.ways(1), 2);
        due(30, "HERS", x.how(1, 0), 3);
        x.call(0);
        due(29, "twisted", x.ways(1), 0);
        due(30, "twisted", x.how(1, 0), NONE);
        x = told(sheet(4, 1, 9));
        folds(x, 4, 4);
        due(29, "HIS twice, or the FACE changed twice", x.ways(2), 5);
        due(30, "HERS", x.how(2, 0), 3);
        due(30, "HERS again", x.how(2, 1), 3);
        x = told(sheet(4, 4, 9));
        folds(x, 7, 8);
        due(30, "ROUND first", x.how(2, 0), 7);
        due(30, "QUARTER then", x.how(2, 1), 8);
        x = told(sheet(48, 48, 60));
        for (int first = 0; first < 9; first++) {
            x.anew();
            x.fold(first);
            boolean shared = first == 3 || first == 5;
            due(29, "MOVE " + first + ", HERS as BOTH", x.ways(1), shared ? 2 : 1);
            due(30, "MOVE " + first + ", HERS as BOTH", x.how(1, 0), shared ? 3 : first);
        }
    }

    private static void byCalls() {
        SheetByTwo x = told(sheet(4, 4, 9) + "call her stay his stay;call her top his top;call her walk his stay;"
            + "call her top his bottom;wish long 2 wide 2 either any;");
        due(32, "called", x.called(), 2);
        due(33, "words(0)", x.words(0), 2);
        due(33, "words(1)", x.words(1), 6);
        due(33, "words(2)", x.words(2), -2);
        due(33, "words(-1)", x.words(-1), -2);
        x.call(3);
        x.call(3);
        due(32, "twisted", x.called(), 4);
        due(33, "UNTWIST is no CALL", x.words(0), 2);
        x = told(sheet(4, 4, 9) + "call her top his top;call her top his top;wish long 4 wide 1 either any;");
        due(32, "twice the same", x.called(), 2);
        due(33, "one is enough", x.words(0), 1);
        due(33, "the least", x.words(1), 1);
        x = told(sheet(4, 4, 9) + "call her top his top;wish long 4 wide 4 front top;");
        due(32, "as it is", x.called(), 0);
        due(33, "as it is", x.words(0), 0);
        due(33, "as it is", x.words(1), 0);
        x = told(sheet(4, 4, 9) + "call her top his top;wish long 4 wide 4 back any;");
        due(16, "TURN is no CALL", x.fewest(), 1);
        due(32, "none do", x.called(), NONE);
        due(33, "none do", x.words(0), NONE);
        due(33, "none do", x.words(1), NONE);
        x = told(sheet(4, 4, 9) + "call her walk his walk;call her walk his stay;call her stay his walk;"
            + "wish long 1 wide 4 front any;");
        due(32, "back and back again", x.called(), 2);
        due(33, "BOTH alone does", x.words(1), 1);
        x = told(sheet(4, 4, 9) + "call her walk his walk;call her top his top;wish long 2 wide 2 either any;");
        due(32, "the first CALL counts", x.called(), 2);
        due(33, "all of them", x.words(0), 2);
        due(33, "all of them", x.words(1), 3);
        due(35, "none doubled", x.doubled(), 0);
        x = told(sheet(4, 4, 3) + "call her walk his walk;wish long 2 wide 4 either any;");
        due(32, "no room", x.called(), NONE);
        x = told(BASE + "call her top his top;call her top his bottom;call her stay his stay;call her top his bottom;"
            + "call her bottom his top;call her top his top;");
        due(32, "no wish", x.called(), -2);
        due(33, "no wish", x.words(0), -2);
        due(34, "alike", x.alike(), 1 + 4 + 32);
        due(35, "doubled", x.doubled(), 8 + 32);
        due(34, "no CALLS", told(BASE).alike(), 0);
        due(35, "no CALLS", told(BASE).doubled(), 0);
        due(35, "one CALL", told(BASE + "call her top his top;").doubled(), 0);
        due(34, "no LINEN", new SheetByTwo().alike(), -2);
        due(35, "no LINEN", new SheetByTwo().doubled(), -2);
    }

    private static void part(int promise, String what, int above, int below, int wantAbove, int wantBelow) {
        due(promise, what + ", above", above, wantAbove);
        due(promise, what + ", below", below, wantBelow);
    }

    private static void chances() {
        String calls = "call her top his top;call her top his bottom;call her walk his walk;call her top his stay;"
            + "call her stay his bottom;call her bottom his bottom;";
        SheetByTwo x = told(BASE + calls + "slips her 10 his 20;halve takes 4;");
        part(36, "TOP", x.right(0, 0), x.right(0, 1), 18, 25);
        part(36, "a TWIST", x.right(1, 0), x.right(1, 1), 18, 25);
        part(36, "walk, walk", x.right(2, 0), x.right(2, 1), 1, 1);
        part(36, "top, stay", x.right(3, 0), x.right(3, 1), 9, 10);
        part(36, "stay, bottom", x.right(4, 0), x.right(4, 1), 4, 5);
        part(37, "TOP", x.twists(0, 0), x.twists(0, 1), 13, 50);
        part(37, "a TWIST", x.twists(1, 0), x.twists(1, 1), 37, 50);
        part(37, "walk, walk", x.twists(2, 0), x.twists(2, 1), 0, 1);
        part(37, "top, stay", x.twists(3, 0), x.twists(3, 1), 0, 1);
        part(37, "BOTTOM", x.twists(5, 0), x.twists(5, 1), 13, 50);
        part(38, "TOP", x.mend(0, 0), x.mend(0, 1), 265, 37);
        part(38, "BOTTOM", x.mend(5, 0), x.mend(5, 1), 265, 37);
        for (int call = 1; call <= 4; call++) {
            due(38, "neither TOP nor BOTTOM", x.mend(call, 0), -2);
        }
        for (int what : new int[] {-1, 2}) {
            due(36, "no such what", x.right(0, what), -2);
            due(37, "no such what", x.twists(0, what), -2);
            due(38, "no such what", x.mend(0, what), -2);
        }
        for (int call : new int[] {-1, 6}) {
            due(36, "no such CALL", x.right(call, 0), -2);
            due(37, "no such CALL", x.twists(call, 0), -2);
            due(38, "no such CALL", x.mend(call, 0), -2);
        }
        x = told(BASE + calls);
        part(36, "no slips", x.right(0, 0), x.right(0, 1), 1, 1);
        part(37, "no slips", x.twists(0, 0), x.twists(0, 1), 0, 1);
        part(37, "no slips, a TWIST", x.twists(1, 0), x.twists(1, 1), 1, 1);
        part(38, "no slips", x.mend(0, 0), x.mend(0, 1), 5, 1);
        x = told(BASE + calls + "slips her 50 his 50;untwist takes 4;halve takes 7;");
        part(36, "half of them", x.right(0, 0), x.right(0, 1), 1, 4);
        part(37, "half of them", x.twists(0, 0), x.twists(0, 1), 1, 2);
        part(38, "half of them", x.mend(0, 0), x.mend(0, 1), 18, 1);
        x = told(BASE + calls + "slips her 1 his 0;untwist takes 99;halve takes 98;");
        part(38, "one of a hundred", x.mend(0, 0), x.mend(0, 1), 9899, 99);
    }

    private static void chancesOfRows() {
        SheetByTwo x = told(BASE + "call her top his top;call her walk his walk;call her top his stay;slips her 1 his 1;");
        due(39, "an empty SLOT", x.chance(0, 0), -6);
        due(39, "an empty SLOT, no such what", x.chance(0, 2), -2);
        fill(x, 0, 0, 0, 0, 0, 0);
        due(39, "eight told, above", x.chance(0, 0), 9227446944279201L);
        due(39, "eight told, below", x.chance(0, 1), 10000000000000000L);
        due(39, "chance(0, 2)", x.chance(0, 2), -2);
        due(39, "chance(0, -1)", x.chance(0, -1), -2);
        due(39, "chance(4, 0)", x.chance(4, 0), -2);
        due(39, "chance(-1, 0)", x.chance(-1, 0), -2);
        fill(x, 1, 1, 0, 0, 0, 0, 2);
        due(39, "nine told", x.chance(1, 0), NONE);
        due(39, "nine told", x.chance(1, 1), NONE);
        x.write(1, 4, 3);
        due(39, "3 is no CALL", x.chance(1, 0), -2);
        x.write(1, 4, -1);
        due(39, "-1 is no CALL", x.chance(1, 0), -2);
        x.row(2, 3, 60);
        for (int i = 0; i < 60; i++) {
            x.write(2, i, i % 15 == 0 ? 0 : 1);
        }
        due(39, "60 with eight told, above", x.chance(2, 0), 9227446944279201L);
        due(39, "60 with eight told, below", x.chance(2, 1), 10000000000000000L);
        x.write(2, 59, 1L << 32);
        due(39, "2^32 is no CALL", x.chance(2, 1), -2);
        x.row(3, 0, 0);
        due(39, "none, above", x.chance(3, 0), 1);
        due(39, "none, below", x.chance(3, 1), 1);
        x = told(BASE + "call her top his top;call her top his stay;slips her 50 his 20;");
        fill(x, 0, 2, 0, 1);
        due(39, "lowest terms, above", x.chance(0, 0), 1);
        due(39, "lowest terms, below", x.chance(0, 1), 5);
    }

    private static void twisted() {
        SheetByTwo x = told(BASE + "call her bottom his top;untwist takes 11;");
        due(40, "no TWIST", x.out(0), 0);
        due(40, "no TWIST", x.out(1), 0);
        x.call(0);
        x.call(0);
        due(40, "two", x.out(0), 2);
        due(40, "their SECONDS", x.out(1), 22);
        due(40, "out(2)", x.out(2), -2);
        due(40, "out(-1)", x.out(-1), -2);
    }

    private static void press() {
        SheetByTwo x = told("linen long 6 wide 6 thick 9 room 6 arms 6;press 40;");
        due(41, "40 by 9", x.fits(), 4);
        due(43, "8 instead of 9", x.thin(), 1);
        folds(x, 0);
        due(41, "40 by 18", x.fits(), 2);
        due(43, "13 instead of 18", x.thin(), 5);
        folds(x, 2);
        due(41, "40 by 54", x.fits(), 0);
        due(43, "40 instead of 54", x.thin(), 14);
        x = told("linen long 6 wide 6 thick 1 room 6 arms 6;press 1;");
        due(41, "1 by 1", x.fits(), 1);
        due(43, "it would be nothing", x.thin(), NONE);
        x = told("linen long 6 wide 6 thick 9 room 6 arms 6;press 1;");
        due(43, "1 instead of 9", x.thin(), 8);
        due(41, "no press", told(BASE).fits(), NONE);
        due(43, "no press", told(BASE).thin(), NONE);
        x = told(BASE);
        due(42, "an empty SLOT, no press", x.packs(0, 0), -6);
        due(42, "an empty SLOT, no press", x.packs(3, 1), -6);
        due(42, "no such SLOT, no press", x.packs(4, 0), -2);
        due(42, "no such what, no press", x.packs(0, 2), -2);
        fill(x, 0, 1, 15, 20);
        due(42, "no press", x.packs(0, 0), NONE);
        due(42, "no press", x.packs(0, 1), NONE);
        x.row(1, 0, 0);
        due(42, "a row of none, no press", x.packs(1, 0), NONE);
        x.write(0, 1, -1);
        due(42, "one below 0, no press", x.packs(0, 0), -2);
        x = told(BASE + "press 40;");
        due(42, "an empty SLOT", x.packs(0, 0), -6);
        fill(x, 0, 1, 15, 20, 9);
        due(42, "15 and 20", x.packs(0, 0), 35);
        due(42, "two go in", x.packs(0, 1), 2);
        fill(x, 1, 3, 39, 3, 1L << 40, 38, 0, 2);
        due(42, "38 and 2, or 39", x.packs(1, 0), 40);
        due(42, "0, 2 and 3", x.packs(1, 1), 3);
        fill(x, 2, 2, 40, 41);
        due(42, "all of the press", x.packs(2, 0), 40);
        due(42, "all of the press", x.packs(2, 1), 1);
        fill(x, 2, 2, 41, 1000);
        due(42, "too thick", x.packs(2, 0), 0);
        due(42, "too thick", x.packs(2, 1), 0);
        x.row(3, 0, 60);
        due(42, "sixty of nothing", x.packs(3, 1), 60);
        due(42, "sixty of nothing", x.packs(3, 0), 0);
        x.write(3, 59, -1);
        due(42, "one below 0", x.packs(3, 0), -2);
        x.write(3, 59, 200);
        due(42, "200 cut to a byte is below 0", x.packs(3, 0), -2);
        due(42, "packs(0, 2)", x.packs(0, 2), -2);
        due(42, "packs(0, -1)", x.packs(0, -1), -2);
        due(42, "packs(4, 0)", x.packs(4, 0), -2);
        due(42, "packs(-1, 0)", x.packs(-1, 0), -2);
        x.row(3, 0, 0);
        due(42, "a row of none", x.packs(3, 0), 0);
        due(42, "a row of none", x.packs(3, 1), 0);
        x = told(BASE + "press 999;");
        fill(x, 0, 1, 500, 499, 998, 7);
        due(42, "all of 999", x.packs(0, 0), 999);
        due(42, "7 and 499", x.packs(0, 1), 2);
    }

    private static void learning() {
        SheetByTwo x = told(BASE + "pair 10 learns 20;pair 12 learns 0;pair 1 learns 999;pair 10 learns 20;");
        due(44, "learn(0, 0)", x.learn(0, 0), 0);
        due(44, "learn(0, 1)", x.learn(0, 1), 30);
        due(44, "learn(0, 5)", x.learn(0, 5), 95);
        due(44, "learn(1, 999)", x.learn(1, 999), 12 * 999);
        due(44, "learn(0, 1000)", x.learn(0, 1000), -2);
        due(44, "learn(0, -1)", x.learn(0, -1), -2);
        due(44, "learn(4, 1)", x.learn(4, 1), -2);
        due(44, "learn(-1, 1)", x.learn(-1, 1), -2);
        due(45, "skilled(0, 30)", x.skilled(0, 30), 0);
        due(45, "skilled(0, 29)", x.skilled(0, 29), 1);
        due(45, "skilled(0, 10)", x.skilled(0, 10), 20);
        due(45, "skilled(0, 9)", x.skilled(0, 9), NONE);
        due(45, "skilled(0, LOW)", x.skilled(0, LOW), NONE);
        due(45, "skilled(0, HIGH)", x.skilled(0, HIGH), 0);
        due(45, "skilled(2, 2)", x.skilled(2, 2), 499);
        due(45, "skilled(2, 1): the 1000th would", x.skilled(2, 1), NONE);
        due(45, "skilled(4, 9)", x.skilled(4, 9), -2);
        due(46, "soonest(1)", x.soonest(1), 1);
        due(46, "soonest(999)", x.soonest(999), 2);
        due(46, "soonest(0)", x.soonest(0), -2);
        due(46, "soonest(1000)", x.soonest(1000), -2);
        x = told(BASE + "pair 10 learns 20;pair 12 learns 0;pair 10 learns 20;");
        due(46, "the first of several", x.soonest(999), 0);
        due(46, "no PAIR", told(BASE).soonest(1), NONE);
        due(46, "no PAIR, no such n", told(BASE).soonest(0), -2);
        due(46, "no LINEN", new SheetByTwo().soonest(1), -2);
    }

    private static void piles() {
        SheetByTwo x = told(BASE + "pair 10 learns 0;pair 10 learns 0;pile 3;pile 2;pile 1;");
        due(47, "three, and two and one", x.friday(), 30);
        due(48, "given(0)", x.given(0), 0);
        due(48, "given(1)", x.given(1), 1);
        due(48, "given(2)", x.given(2), 1);
        due(48, "given(3)", x.given(3), -2);
        due(48, "given(-1)", x.given(-1), -2);
        due(49, "no sooner", x.helps(0), 0);
        x = told(BASE + "pair 10 learns 0;pair 11 learns 0;pile 2;pile 2;pile 2;");
        due(47, "two piles of one", x.friday(), 40);
        due(48, "given(2)", x.given(2), 1);
        due(49, "helps(0)", x.helps(0), 18);
        due(49, "helps(1)", x.helps(1), 18);
        due(49, "helps(2)", x.helps(2), -2);
        due(49, "helps(-1)", x.helps(-1), -2);
        x = told(BASE + "pair 10 learns 20;pair 12 learns 0;pile 3;pile 2;");
        due(47, "sheets of all PILES are learned together", x.friday(), 50);
        due(48, "given(0)", x.given(0), 1);
        due(48, "given(1)", x.given(1), 0);
        x = told(BASE + "pair 1 learns 100;pile 1;pile 1;");
        due(47, "one PAIR", x.friday(), 152);
        due(49, "helps(0)", x.helps(0), 51);
        x = told(BASE + "pair 9 learns 9;pair 9 learns 9;pair 9 learns 9;pair 9 learns 9;"
            + "pile 60;pile 60;pile 60;pile 60;pile 60;pile 60;");
        due(47, "two piles", x.friday(), x.learn(0, 120));
        due(49, "a fifth PAIR is no help", x.helps(3), 0);
        due(48, "given(0)", x.given(0), 0);
        due(48, "given(1)", x.given(1), 0);
        due(48, "given(2)", x.given(2), 1);
        due(48, "given(4)", x.given(4), 2);
        due(48, "given(5)", x.given(5), 2);
        x = told(BASE + "pair 9 learns 9;pair 9 learns 9;pair 9 learns 9;pair 9 learns 9;pile 7;pile 7;pile 7;pile 7;pile 7;");
        due(47, "five of four", x.friday(), x.learn(0, 14));
        due(48, "given(4)", x.given(4), 2);
        due(49, "a fifth PAIR helps", x.helps(0), x.learn(0, 14) - x.learn(0, 7));
        x = told(BASE + "pair 9 learns 999;pile 60;pile 60;pile 60;pile 60;pile 60;pile 60;");
        due(47, "all of one", x.friday(), x.learn(0, 360));
        x = told(BASE + "pile 4;");
        due(47, "a PILE without PAIR", x.friday(), NONE);
        due(48, "a PILE without PAIR", x.given(0), NONE);
        due(48, "no such PILE without PAIR", x.given(1), -2);
        due(49, "no PAIR", x.helps(0), -2);
        x = told(BASE + "pair 5 learns 5;");
        due(47, "no PILE", x.friday(), 0);
        due(49, "no PILE", x.helps(0), 0);
        due(47, "neither", told(BASE).friday(), 0);
    }

    private static void draws() {
        // Seed 0 draws 0, 68, 88, 17, 98, 27; seed 1: 38, 58, 13, 15; seed 2: 8, 17, 39, 14; seed 3: 47, 7.
        SheetByTwo x = told(BASE + "call her top his top;call her walk his stay;call her stay his bottom;call her top his walk;"
            + "slips her 10 his 20;halve takes 4;meet takes 6;");
        due(50, "an empty SLOT", x.drawn(0, 0, 0), -600);
        due(51, "an empty SLOT", x.slipped(0, 0), -6);
        due(52, "an empty SLOT", x.years(0, 1, 0), -6);
        due(50, "an empty SLOT, no such seed", x.drawn(-1, 0, 0), -100);
        due(51, "an empty SLOT, no such seed", x.slipped(-1, 0), -2);
        due(52, "an empty SLOT, no such n", x.years(0, 0, 0), -2);
        fill(x, 0, 0, 0);
        due(50, "she slips: TWIST", x.drawn(0, 0, 4), -1);
        due(50, "its SECONDS", x.drawn(0, 0, 7), 4);
        due(51, "she slips", x.slipped(0, 0), 1);
        due(50, "no slip: WIDE", x.drawn(1, 0, 1), 3);
        due(50, "no slip: HEM", x.drawn(1, 0, 2), 1);
        due(51, "no slip", x.slipped(1, 0), 0);
        due(50, "both slip: HEM as BOTTOM has it", x.drawn(2, 0, 2), 0);
        due(50, "both slip: WIDE", x.drawn(2, 0, 1), 3);
        due(51, "both slip", x.slipped(2, 0), 2);
        due(50, "he slips: TWIST", x.drawn(3, 0, 4), 1);
        due(52, "of seeds 0 to 3", x.years(0, 4, 0), 1);
        due(52, "of seed 1", x.years(1, 1, 0), 1);
        fill(x, 1, 1, 1, 0);
        due(50, "walk, stay draw nothing: LONG", x.drawn(0, 1, 0), 3);
        due(50, "walk, stay draw nothing: TWIST", x.drawn(0, 1, 4), -1);
        due(50, "SECONDS", x.drawn(0, 1, 7), 10);
        fill(x, 2, 2, 0, 1, 0);
        due(50, "what can't be is left out: LONG", x.drawn(0, 2, 0), 6);
        due(50, "its draws are not: TWIST", x.drawn(0, 2, 4), 0);
        due(51, "her first, his second slip", x.slipped(0, 2), 2);
        due(50, "SECONDS", x.drawn(0, 2, 7), 8);
        fill(x, 3, 3, 2, 3);
        due(51, "his draw 0 slips, hers 68 not", x.slipped(0, 3), 1);
        due(50, "nothing is done", x.drawn(0, 3, 7), 0);
        due(50, "LAYERS", x.drawn(1, 0, 5), 2);
        due(50, "how thick", x.drawn(1, 0, 6), 2);
        due(50, "FACE", x.drawn(1, 0, 3), 1);
        folds(x, 6);
        due(50, "from now on: SECONDS", x.drawn(1, 0, 7), 9);
        due(50, "from now on: FACE", x.drawn(1, 0, 3), 0);
        due(50, "the work stays", x.count(6), 1);
        SheetByTwo y = told(BASE + "call her bottom his bottom;slips her 8 his 17;");
        fill(y, 0, 0, 0);
        due(51, "a draw as high as slips is none", y.slipped(2, 0), 0);
        due(50, "BOTTOM: FACE", y.drawn(2, 0, 3), 0);
        due(50, "BOTTOM: WIDE", y.drawn(2, 0, 1), 3);
        due(50, "hers slips: a TWIST more", y.drawn(0, 0, 4), 1);
        due(50, "seed 2,000,000,001", x.drawn(2_000_000_001, 0, 0), -100);
        due(50, "seed -1", x.drawn(-1, 0, 0), -100);
        due(50, "seed 2,000,000,000 draws 4", x.drawn(2_000_000_000, 0, 4), -1);
        due(50, "what 8", x.drawn(0, 0, 8), -100);
        due(50, "what -1", x.drawn(0, 0, -1), -100);
        due(50, "slot 4", x.drawn(0, 4, 0), -100);
        due(51, "seed -1", x.slipped(-1, 0), -2);
        due(51, "seed 2,000,000,001", x.slipped(2_000_000_001, 0), -2);
        due(51, "slot 4", x.slipped(0, 4), -2);
        due(52, "n 0", x.years(0, 0, 0), -2);
        due(52, "n 21", x.years(0, 21, 0), -2);
        due(52, "seed -1", x.years(-1, 1, 0), -2);
        due(52, "seed 2,000,000,001", x.years(2_000_000_001, 1, 0), -2);
        due(52, "seeds above the highest", x.years(2_000_000_000, 2, 0), 1);
        due(52, "slot -1", x.years(0, 1, -1), -2);
        x.write(0, 0, 4);
        due(50, "4 is no CALL", x.drawn(0, 0, 0), -100);
        due(51, "4 is no CALL", x.slipped(0, 0), -2);
        due(52, "4 is no CALL", x.years(0, 1, 0), -2);
        x.row(0, 0, 0);
        due(50, "a row of none", x.drawn(0, 0, 0), 6);
        due(52, "a row of none", x.years(5, 20, 0), 20);
    }

    private static void counts() {
        SheetByTwo x = told("linen long 6 wide 6 thick 1 room 7 arms 8;call her top his top;call her walk his walk;"
            + "pair 1 learns 1;pile 1;pile 2;pile 3;press 55;wish long 6 wide 6 either any;halve takes 3;");
        x.feed(0, 0, 0, 0, 0);
        x.end(13);
        x.row(3, 0, 0);
        x.row(1, 3, 60);
        folds(x, 0, 3);
        x.call(1);
        int[] want = {2, 1, 3, 7, 8, 55, 2, 1, 10, 13, 2};
        for (int what = 0; what <= 10; what++) {
            due(53, "count(" + what + ")", x.count(what), want[what]);
        }
        due(53, "count(11)", x.count(11), NONE);
        due(53, "count(-1)", x.count(-1), NONE);
        x = told(BASE);
        due(53, "no press", x.count(5), 0);
        due(53, "no wish", x.count(7), 0);
        x = new SheetByTwo();
        x.feed(0, 0, 0, 0, 0);
        x.row(0, 0, 1);
        due(53, "the TAPE without LINEN", x.count(9), 20);
        due(53, "SLOTS without LINEN", x.count(10), 1);
        due(53, "room without LINEN", x.count(3), 0);
    }

    private static void images() {
        SheetByTwo x = told(BASE + "press 9;pair 3 learns 4;pile 5;call her top his bottom;wish long 3 wide 6 either any;"
            + "slips her 5 his 6;halve takes 8;");
        due(55, "back(0)", x.back(0), -6);
        due(55, "back(3)", x.back(3), -2);
        due(55, "back(-1)", x.back(-1), -2);
        due(54, "image(3)", x.image(3), -2);
        due(54, "image(-1)", x.image(-1), -2);
        folds(x, 7);
        x.call(0);
        due(54, "image(0)", x.image(0), 0);
        x.anew();
        due(54, "it keeps what was", x.back(0), 0);
        due(54, "TWIST", x.state(4), 1);
        due(55, "HEM", x.state(2), 1);
        due(55, "what was done", x.count(6), 2);
        due(55, "SECONDS", x.state(7), 13);
        due(55, "led(1)", x.led(1), 10);
        tell(x, "linen long 9 wide 9 thick 9 room 9 arms 9;");
        due(54, "image(2)", x.image(2), 0);
        due(55, "back(0)", x.back(0), 0);
        int[] want = {1, 1, 1, 6, 6, 9, 2, 1, 8};
        for (int what = 0; what < want.length; what++) {
            due(55, "count(" + what + ")", x.count(what), want[what]);
        }
        due(55, "slips", x.right(0, 0), 893);
        due(55, "learn", x.learn(0, 1), 7);
        due(55, "friday", x.friday(), x.learn(0, 5));
        due(55, "means", x.means(0), 10);
        due(55, "fewest", x.fewest(), 2);
        due(55, "undo", x.undo(), 1);
        due(55, "undo twice", x.undo(), 0);
        due(55, "HEM then", x.state(2), 0);
        due(55, "back(0) again", x.back(0), 0);
        due(55, "it was not changed", x.count(6), 2);
        due(55, "back(2)", x.back(2), 0);
        due(55, "LONG", x.state(0), 9);
        due(55, "no press", x.count(5), 0);
        due(55, "nothing done", x.count(6), 0);
        due(54, "in place of another", x.image(0), 0);
        x.back(0);
        due(54, "in place of another", x.state(0), 9);
        x = new SheetByTwo();
        due(54, "of no LINEN", x.image(1), 0);
        tell(x, BASE);
        x.row(0, 0, 5);
        x.feed(1, 2, 3, 4, 5);
        due(55, "to no LINEN", x.back(1), 0);
        due(55, "there is none", x.state(0), -100);
        due(55, "SLOTS stay", x.count(10), 1);
        due(55, "the TAPE stays", x.count(9), 20);
        due(55, "the FAULT stays", x.fault(0), 0);
    }

    private static void rows() {
        SheetByTwo x = told(BASE + "press 999;");
        due(56, "row(4, 0, 1)", x.row(4, 0, 1), -2);
        due(56, "row(-1, 0, 1)", x.row(-1, 0, 1), -2);
        due(56, "row(0, 4, 1)", x.row(0, 4, 1), -2);
        due(56, "row(0, -1, 1)", x.row(0, -1, 1), -2);
        due(56, "row(0, 0, 61)", x.row(0, 0, 61), -2);
        due(56, "row(0, 0, -1)", x.row(0, 0, -1), -3);
        due(56, "row(0, 4, -1)", x.row(0, 4, -1), -2);
        due(56, "nothing yet", x.packs(0, 0), -6);
        due(56, "row(0, 0, 60)", x.row(0, 0, 60), 0);
        due(57, "write(4, 0, 1)", x.write(4, 0, 1), -2);
        due(57, "write(-1, 0, 1)", x.write(-1, 0, 1), -2);
        due(57, "write(1, 0, 1)", x.write(1, 0, 1), -6);
        due(57, "write(0, 60, 1)", x.write(0, 60, 1), -7);
        due(57, "write(0, -1, 1)", x.write(0, -1, 1), -7);
        due(57, "write(0, 59, 7)", x.write(0, 59, 7), 0);
        due(57, "it is there", x.packs(0, 0), 7);
        due(56, "-3, and it stays", x.row(0, 1, -1), -3);
        due(56, "it stays", x.packs(0, 0), 7);
        due(56, "-2, and it stays", x.row(0, 1, 61), -2);
        due(56, "it stays", x.packs(0, 0), 7);
        due(56, "in place of it", x.row(0, 0, 3), 0);
        due(56, "all 0", x.packs(0, 0), 0);
        due(56, "three of them", x.packs(0, 1), 3);
        long[] values = {0x1_0000_0105L, 0x1_0001_0105L, 0x7_0000_0005L, 5};
        int[] cut = {5, 0x105, 5, 5};
        for (int width = 0; width < 4; width++) {
            fill(x, 0, width, values[width]);
            due(57, "cut to WIDTH " + width, x.packs(0, 0), cut[width]);
            fill(x, 0, width, -1);
            due(57, "below 0 in WIDTH " + width, x.packs(0, 0), -2);
        }
        fill(x, 0, 3, 1L << 32);
        due(57, "2^32 whole in WIDTH 3", x.packs(0, 1), 0);
        fill(x, 0, 1, 1, 2, 4, 8, 16);
        due(58, "paste(4, ..)", x.paste(4, 0, 0, 0, 1), -2);
        due(58, "paste(0, 0, -1, ..)", x.paste(0, 0, -1, 0, 1), -2);
        due(58, "to nothing", x.paste(0, 0, 1, 0, 1), -6);
        due(58, "from nothing", x.paste(1, 0, 0, 0, 1), -6);
        x.row(1, 2, 5);
        due(58, "of two WIDTHS", x.paste(0, 0, 1, 0, 1), -8);
        due(58, "of two WIDTHS, beyond", x.paste(0, 9, 1, 0, 1), -8);
        x.row(2, 1, 4);
        due(58, "beyond the first", x.paste(0, 4, 2, 0, 2), -7);
        due(58, "beyond the other", x.paste(0, 0, 2, 1, 4), -7);
        due(58, "i below 0", x.paste(0, -1, 2, 0, 1), -7);
        due(58, "k below 0", x.paste(0, 0, 2, -1, 1), -7);
        due(58, "n below 0", x.paste(0, 0, 2, 0, -1), -7);
        due(58, "n very high", x.paste(0, 1, 2, 1, HIGH), -7);
        due(58, "i very high", x.paste(0, HIGH, 2, 0, 1), -7);
        due(58, "k very high", x.paste(0, 0, 2, HIGH, 4), -7);
        due(58, "nothing happened", x.packs(2, 0), 0);
        due(58, "two numbers", x.paste(0, 2, 2, 1, 2), 0);
        due(58, "4 and 8", x.packs(2, 0), 12);
        due(58, "none, at the end", x.paste(0, 5, 2, 4, 0), 0);
        due(58, "to its own, behind", x.paste(0, 0, 0, 1, 4), 0);
        due(58, "1, 1, 2, 4, 8", x.packs(0, 0), 16);
        fill(x, 0, 1, 1, 2, 4, 8, 16);
        due(58, "to its own, ahead", x.paste(0, 1, 0, 0, 4), 0);
        due(58, "2, 4, 8, 16, 16", x.packs(0, 0), 46);
        x.row(2, 1, 5);
        due(58, "a whole row", x.paste(0, 0, 2, 0, 5), 0);
        due(58, "a whole row", x.packs(2, 0), 46);
        fill(x, 3, 0, 0, 6, 9);
        fill(x, 1, 0, 1, 1, 1);
        x.paste(3, 1, 1, 0, 1);
        due(58, "TURN, BOTTOM, and no other", x.plan(1), 2);
        due(58, "a TURN first", x.after(1, 3), 1);
    }
}
