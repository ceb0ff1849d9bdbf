import java.math.BigInteger;
import java.util.regex.Matcher;
import java.util.regex.Pattern;

/** The sentences of the document's Terms I to VI that name a bound, an empty or a full thing, or a refusal. */
public final class TermsTest extends Sentences {
    private static final String[] MOVINGS = {"halve", "third", "meet", "turn", "quarter", "untwist"};
    private static final int[] MOVING_OF = {0, 0, 1, 2, 2, 2, 3, 3, 4, 5};
    private static final String[] FACINGS = {"front", "back", "either"};
    private static final String[] HEMMINGS = {"top", "bottom", "left", "right", "in", "any"};

    public static void main(String[] args) {
        calls512();
        lines();
        firstLine();
        sizes();
        takes();
        acts();
        slips();
        wishes();
        presses();
        pairs();
        piles();
        numbered();
        tokens();
        faultsFirst();
        faultsOnePlace();
        cantStand();
        outOfBounds();
        tooMany();
        slots();
        twistBounds();
        firstState();
        layers();
        roomForMoves();
        noTwistForMoves();
        evenWide();
        wideByThree();
        evenLong();
        hems();
        turns();
        quarters();
        untwists();
        seconds();
        callTwists();
        nothingCalls();
        wished();
        firstRow();
        quickestRow();
        byMyself();
        byCalls();
        slipsApart();
        lowestTerms();
        mended();
        learned();
        shared();
        modulus();
        drawCut();
        drawOrder();
        allSaidInTerms();
        finish();
    }

    /** A number's least and highest stand; those beyond, and what would wrap round into the bounds, do not. */
    private static void bounds(String ahead, int low, int high, String behind) {
        int lines = (ahead + behind).replaceAll("[^;]", "").length();
        int place = ahead.length();
        good(ahead + low + behind, lines);
        good(ahead + high + behind, lines);
        good(ahead + "0000000000" + high + behind, lines);
        if (low > 0) {
            bad(ahead + (low - 1) + behind, 2, place);
        } else {
            bad(ahead + "-1" + behind, 1, place);
        }
        bad(ahead + (high + 1) + behind, 2, place);
        bad(ahead + "4294967297" + behind, 2, place);
        bad(ahead + "18446744073709551617" + behind, 2, place);
    }

    private static void calls512() {
        saidOfAll("An object is used for at most 512 calls after it has been made");
        SheetByTwo x = told(BASE + "wish long 3 wide 3 either any;");
        int used = 73 / 20 + 1 + 2; // feed() of 73 bytes, end(), linen()
        for (; used < 511; used++) {
            if (used % 3 == 0) {
                x.fold(6);
            } else if (used % 3 == 1) {
                x.undo();
            } else {
                x.fewest();
            }
        }
        due("the 512th call", x.fewest(), 2);
    }

    private static void lines() {
        saidInTerms("LINEN: {LINE ;}.");
        good("", 0);
        good(" \n \n", 0);
        good(BASE, 1);
        bad(BASE.substring(0, 41), 1, 41);
        bad(BASE + "press 5", 1, 49);
        bad(BASE + "press 5 press 6;", 1, 50);
        bad(";", 1, 0);
        bad(BASE + ";", 1, 42);
        bad(BASE + "press 5;;", 1, 50);
        SheetByTwo x = new SheetByTwo();
        feedText(x, "linen long1wide1thick1room1arms1;" + "press2;".repeat(137) + "press22;");
        due("a full TAPE", x.count(9), 1000);
        due("its LINES", x.linen(), 139);
        due("the last of them", x.count(5), 22);
        String most = BASE + "press 7 ;".repeat(105) + "\npile1";
        feedText(x, most + " ".repeat(999 - most.length()) + ";");
        due("a TAPE with the sign at its end", x.count(9), 1000);
        due("its LINES", x.linen(), 107);
        due("the last of them", x.count(2), 1);
    }

    private static void firstLine() {
        saidInTerms("linen is the first LINE and no other");
        bad("press 5;" + BASE, 1, 0);
        bad("\n press 5;", 1, 2);
        bad(BASE + BASE, 1, 42);
        bad(BASE + "press 5;" + BASE, 1, 50);
        good(BASE + "press 5;", 2);
    }

    private static void sizes() {
        saidInTerms("long, wide 1 .. 48");
        bounds("linen long ", 1, 48, " wide 6 thick 1 room 6 arms 6;");
        bounds("linen long 6 wide ", 1, 48, " thick 1 room 6 arms 6;");
        bounds(BASE + "wish long ", 1, 48, " wide 1 either any;");
        bounds(BASE + "wish long 1 wide ", 1, 48, " either any;");
        for (int n = 1; n <= 48; n++) {
            due("LONG " + n, told(sheet(n, 6, 60)).state(0), n);
            due("WIDE " + n, told(sheet(6, n, 60)).state(1), n);
            due("wished LONG " + n, told(sheet(n, 6, 60) + "wish long " + n + " wide 6 front top;").fewest(), 0);
            due("wished WIDE " + n, told(sheet(6, n, 60) + "wish long 6 wide " + n + " front top;").fewest(), 0);
        }
        saidInTerms("thick 1 .. 9");
        bounds("linen long 6 wide 6 thick ", 1, 9, " room 6 arms 6;");
        for (int n = 1; n <= 9; n++) {
            due("thick " + n, told("linen long 6 wide 6 thick " + n + " room 6 arms 6;").state(6), n);
        }
        saidInTerms("room, arms 1 .. 60.");
        bounds("linen long 6 wide 6 thick 1 room ", 1, 60, " arms 6;");
        bounds("linen long 6 wide 6 thick 1 room 6 arms ", 1, 60, ";");
        for (int n = 1; n <= 60; n++) {
            due("room " + n, told(sheet(6, 6, n)).count(3), n);
            due("arms " + n, told("linen long 6 wide 6 thick 1 room 7 arms " + n + ";").count(4), n);
        }
    }

    private static int secondsOf(String text, int move) {
        SheetByTwo x = told(BASE + TWISTS + text);
        if (move == 9) {
            calls(x, 0);
        }
        return x.fold(move);
    }

    private static void takes() {
        saidInTerms("MOVING: halve | third | meet | turn | quarter | untwist; takes 1 .. 99 (a later one strikes; 5 without).");
        for (int moving = 0; moving < 6; moving++) {
            String takes = MOVINGS[moving] + " takes ";
            bounds(BASE + takes, 1, 99, ";");
            for (int move = 0; move < 10; move++) {
                boolean of = MOVING_OF[move] == moving;
                String name = takes + ", MOVE " + move;
                due(name + " at least", secondsOf(takes + "1;", move), of ? 1 : 5);
                due(name + " at most", secondsOf(takes + "99;", move), of ? 99 : 5);
                due(name + " later", secondsOf(takes + "99;" + takes + "7;", move), of ? 7 : 5);
            }
        }
        bad(BASE + "fold takes 5;", 1, 42);
        bad(BASE + "top takes 5;", 1, 42);
        bad(BASE + "halve take 5;", 1, 48);
    }

    private static void acts() {
        saidInTerms("ACT: top | bottom | walk | stay.");
        for (int i = 0; i < 16; i++) {
            good(BASE + "call her " + ACTS[i / 4] + " his " + ACTS[i % 4] + ";", 2);
        }
        for (String other : new String[] {"left", "front", "any", "in", "to", "topp", "turn", "her", "7", ";"}) {
            bad(BASE + "call her " + other + " his top;", 1, 51);
            bad(BASE + "call her stay his " + other + ";", 1, 60);
        }
    }

    private static void slips() {
        saidInTerms("slips 0 .. 50 (a later one strikes; 0, 0 without).");
        bounds(BASE + "slips her ", 0, 50, " his 0;");
        bounds(BASE + "slips her 0 his ", 0, 50, ";");
        String call = BASE + "call her top his stay;call her stay his top;";
        SheetByTwo x = told(call);
        due("she without", x.right(0, 1), 1);
        due("he without", x.right(1, 1), 1);
        x = told(call + "slips her 0 his 0;");
        due("she, 0", x.right(0, 1), 1);
        due("he, 0", x.right(1, 1), 1);
        x = told(call + "slips her 50 his 0;");
        due("she, 50", x.right(0, 1), 2);
        due("he, 0", x.right(1, 1), 1);
        x = told(call + "slips her 50 his 0;slips her 0 his 50;");
        due("she, later 0", x.right(0, 1), 1);
        due("he, later 50", x.right(1, 1), 2);
    }

    private static void wishes() {
        saidInTerms("FACING: front | back | either; HEMMING: top | bottom | left | right | in | any (a later wish strikes).");
        int[][] rows = {{}, {7}, {7, 8}, {8}, {2, 6}, {6, 7}, {6}, {7, 8, 6}, {8, 6}, {2}};
        for (int facing = 0; facing < 3; facing++) {
            for (int hemming = 0; hemming < 6; hemming++) {
                for (int i = 0; i < 10; i++) {
                    String wish = "wish long 36 wide " + (i % 5 == 4 ? 12 : 36) + " " + FACINGS[facing] + " " + HEMMINGS[hemming];
                    SheetByTwo x = told(sheet(36, 36, 60) + "wish long 1 wide 1 either any;" + wish + ";");
                    folds(x, rows[i]);
                    due("the HEM", x.state(2), i % 5);
                    due("the FACE", x.state(3), i / 5);
                    boolean is = (facing == 2 || facing == i / 5) && (hemming == 5 || hemming == i % 5);
                    due(wish + " of HEM " + i % 5 + ", FACE " + i / 5, x.fewest() == 0 ? 1 : 0, is ? 1 : 0);
                }
            }
        }
        bad(BASE + "wish long 1 wide 1 top any;", 1, 61);
        bad(BASE + "wish long 1 wide 1 any any;", 1, 61);
        bad(BASE + "wish long 1 wide 1 ;", 1, 61);
        bad(BASE + "wish long 1 wide 1 back either;", 1, 66);
        bad(BASE + "wish long 1 wide 1 back inn;", 1, 66);
        bad(BASE + "wish long 1 wide 1 back;", 1, 65);
    }

    private static void presses() {
        saidInTerms("press 1 .. 999 (a later one strikes; none without).");
        bounds(BASE + "press ", 1, 999, ";");
        due("without", told(BASE).count(5), 0);
        due("without", told(BASE).fits(), NONE);
        due("1", told(BASE + "press 1;").fits(), 1);
        due("999", told(BASE + "press 999;").fits(), 999);
        due("later", told(BASE + "press 999;press 2;").fits(), 2);
    }

    private static void pairs() {
        saidInTerms("pair: 1 .. 99 seconds, learns 0 .. 999.");
        bounds(BASE + "pair ", 1, 99, " learns 5;");
        bounds(BASE + "pair 1 learns ", 0, 999, ";");
        due("the least", told(BASE + "pair 1 learns 0;").learn(0, 1), 1);
        due("the most", told(BASE + "pair 99 learns 999;").learn(0, 1), 1098);
    }

    private static void piles() {
        saidInTerms("pile: 1 .. 60 sheets.");
        bounds(BASE + "pile ", 1, 60, ";");
        due("one", told(BASE + "pair 9 learns 0;pile 1;").friday(), 9);
        due("sixty", told(BASE + "pair 9 learns 0;pile 60;").friday(), 540);
        due("six of sixty", told(BASE + "pair 9 learns 0;" + "pile 60;".repeat(6)).friday(), 9 * 360);
    }

    private static void numbered() {
        saidInTerms("CALLS 0 .. 5, PAIRS 0 .. 3, PILES 0 .. 5 are numbered as they stand.");
        int[] kinds = {14, 1, 10, 5, 4, 11};
        StringBuilder text = new StringBuilder(BASE);
        for (int kind : kinds) {
            text.append("call her ").append(ACTS[kind / 4]).append(" his ").append(ACTS[kind % 4]).append(";pair 9 learns 9;");
            int at = text.indexOf("pair 9 learns 9;pair 9 learns 9;");
            due("no two PAIRS yet", at, -1);
            text.setLength(text.length() - 16);
        }
        SheetByTwo x = told(text.toString());
        for (int i = 0; i < 6; i++) {
            due("CALL " + i, x.means(i), MEANS[kinds[i]]);
        }
        due("CALL 6", x.means(6), -2);
        due("CALL -1", x.means(-1), -2);
        x = told(BASE + "pair 4 learns 0;press 5;pair 3 learns 0;pile 1;pair 2 learns 0;pair 1 learns 0;");
        for (int i = 0; i < 4; i++) {
            due("PAIR " + i, x.learn(i, 1), 4 - i);
        }
        due("PAIR 4", x.learn(4, 1), -2);
        due("PAIR -1", x.learn(-1, 1), -2);
        for (int small = 0; small < 6; small++) {
            StringBuilder piles = new StringBuilder(BASE + "pair 1 learns 0;pair 10 learns 0;");
            for (int i = 0; i < 6; i++) {
                piles.append(i == small ? "pile 1;" : "pile 10;");
            }
            x = told(piles.toString());
            for (int i = 0; i < 6; i++) {
                due("PILE " + i + ", " + small + " being small", x.given(i), i == small ? 1 : 0);
            }
            due("PILE 6", x.given(6), -2);
            due("PILE -1", x.given(-1), -2);
        }
    }

    private static void tokens() {
        saidInTerms("TOKENS, blanks (32, 10) aside, the longest: words (a .. z), numbers (digits), the sign ; .");
        String behind = "wide 6 thick 1 room 6 arms 6;";
        for (int b = 0; b < 256; b++) {
            char sign = (char) b;
            boolean letter = b >= 97 && b <= 122;
            boolean digit = b >= 48 && b <= 57;
            if (b == 32 || b == 10) {
                good("linen long 6" + sign + behind, 1);
                good(sign + BASE, 1);
                good(BASE + sign, 1);
                bad("li" + sign + "nen", 1, 0);
                bad("linen long 4" + sign + "8" + behind, 1, 13);
            } else {
                bad("linen long 6" + sign + behind, digit ? 2 : 1, digit ? 11 : 12);
                bad(sign + BASE, 1, 0);
                bad(BASE + sign, 1, 42);
                bad(BASE + "  " + sign + " press 5;", 1, 44);
                bad("linen" + sign + " long", 1, letter ? 0 : 5);
            }
        }
        signs();
        good("linen long6wide6thick1room6arms6;press5;pair1learns0;", 3);
        good("\n\nlinen\nlong\n6\nwide 6 thick  1 room 6 arms 6 ;  \n", 1);
        bad("linenlong 6", 1, 0);
        bad(BASE + "callher top his top;", 1, 42);
        bad(BASE + "call her tophis top;", 1, 51);
        bad("linen long 6wide6thick1room6 0arms6;", 1, 29);
        bad("Linen", 1, 0);
        bad("linen Long", 1, 6);
    }

    /** Each byte in the place of the sign, behind the number 6 and behind a word. */
    private static void signs() {
        String number = BASE.substring(0, 41);
        String word = BASE + "call her top his top";
        for (int b = 0; b < 256; b++) {
            char sign = (char) b;
            boolean letter = b >= 97 && b <= 122;
            boolean digit = b >= 48 && b <= 57;
            if (sign == ';') {
                good(number + sign, 1);
                good(word + sign, 2);
            } else if (b == 32 || b == 10) {
                bad(number + sign, 1, 42);
                bad(word + sign, 1, word.length() + 1);
            } else {
                boolean above = digit && b > 48;
                bad(number + sign, above ? 2 : 1, above ? 40 : digit ? 42 : 41);
                bad(word + sign, 1, letter ? word.length() - 3 : word.length());
                if (digit && !above) {
                    good(number + sign + ";", 1);
                } else {
                    bad(number + sign + ";", above ? 2 : 1, above ? 40 : 41);
                }
            }
        }
    }

    private static void faultsFirst() {
        saidInTerms("FAULTS, the first by its place (a TOKEN's first byte; the end's)");
        bad("linen long 49 wide 0 #", 2, 11);
        bad("linen long 6 # wide 0", 1, 13);
        bad("linen long 6 wide 0000000000000000000050 #", 2, 18);
        bad(BASE + "pile 1;".repeat(6) + "pile 0;#", 3, 84);
        bad(BASE + "pile 1;".repeat(5) + "pile 0;pile 1;pile 1;", 2, 82);
        bad(BASE + "press 5 towels;", 1, 50);
        bad("\n   towel", 1, 4);
        bad("linen", 1, 5);
        bad("linen   ", 1, 8);
        bad("linen long 6" + "\n".repeat(988), 1, 1000);
        String text = BASE + " halve takes 12;\ncall her top his stay ;slips her 10 his 20; wish long 12 wide 11 either any;"
            + "press 123; pair 12 learns 345;pile 11;";
        for (int cut = 0; cut < text.length(); cut++) {
            boolean whole = text.substring(0, cut).isBlank() || text.substring(0, cut).stripTrailing().endsWith(";");
            if (whole) {
                good(text.substring(0, cut), text.substring(0, cut).replaceAll("[^;]", "").length());
            } else {
                bad(text.substring(0, cut), 1, placeOfCut(text, cut));
            }
        }
        good(text, 8);
    }

    /** A word that is cut can't stand there; what is cut elsewhere ends too early. */
    private static int placeOfCut(String text, int cut) {
        Matcher words = Pattern.compile("[a-z]+").matcher(text);
        while (words.find()) {
            if (words.start() < cut && cut < words.end()) {
                return words.start();
            }
        }
        return cut;
    }

    private static void faultsOnePlace() {
        saidInTerms("of one place the least");
        String six = "call her top his top;".repeat(6);
        bad(BASE + six + "press call", 1, 174);
        bad(BASE + six + "call", 3, 168);
        bad(BASE + "pair 1 learns 0;".repeat(4) + "pair 1", 3, 106);
        bad(BASE + "pair 1 learns 0;".repeat(4) + "pile pair", 1, 111);
        bad(BASE + "pile 1;".repeat(6) + "pair pile", 1, 89);
        bad(BASE + "call 99999", 1, 47);
        bad(BASE + "99999", 1, 42);
    }

    private static void cantStand() {
        saidInTerms("1 a TOKEN that is none, or can't stand there (linen behind the first LINE, another word ahead of it).");
        String[] lines = {"halve takes 1;", "third takes 1;", "meet takes 1;", "turn takes 1;", "quarter takes 1;",
            "untwist takes 1;", "call her top his top;", "slips her 1 his 1;", "wish long 1 wide 1 either any;", "press 1;",
            "pair 1 learns 1;", "pile 1;"};
        for (String line : lines) {
            bad(line, 1, 0);
            bad(" " + line + BASE, 1, 1);
            good(BASE + line, 2);
            bad(BASE + line + BASE, 1, 42 + line.length());
            bad(BASE + line.replace(";", " linen;"), 1, 42 + line.length());
        }
        bad(BASE + "linen", 1, 42);
        bad(BASE + BASE, 1, 42);
        bad("linen linen", 1, 6);
        bad("linen long linen", 1, 11);
        bad("linen wide 6", 1, 6);
        bad("linen long 6 wide 6 thick 1 arms 6 room 6;", 1, 28);
        bad("#", 1, 0);
        bad(BASE + "press #", 1, 48);
        bad("7", 1, 0);
    }

    private static void outOfBounds() {
        saidInTerms("2 a number out of its bounds.");
        bad("linen long 0", 2, 11);
        bad("linen long " + "9".repeat(900), 2, 11);
        bad("linen long 2147483648", 2, 11);
        bad("linen long 4294967302 wide", 2, 11);
        bad("linen long " + BigInteger.ONE.shiftLeft(64).add(BigInteger.valueOf(6)) + " wide", 2, 11);
        bad("linen long " + BigInteger.ONE.shiftLeft(512).add(BigInteger.valueOf(6)) + " wide", 2, 11);
        good("linen long " + "0".repeat(900) + "6 wide 6 thick 1 room 6 arms 6;", 1);
        bad("linen long " + "0".repeat(900) + " wide 6 thick 1 room 6 arms 6;", 2, 11);
        bad(BASE + "pile 61;linen", 2, 47);
    }

    private static void tooMany() {
        saidInTerms("3 a 7th call, 5th pair, 7th pile, at its word.");
        String call = "call her top his top;";
        String pair = "pair 1 learns 0;";
        String pile = "pile 1;";
        good(BASE + call.repeat(6), 7);
        bad(BASE + call.repeat(7), 3, 168);
        bad(BASE + call.repeat(6) + " \n call;", 3, 171);
        good(BASE + pair.repeat(4), 5);
        bad(BASE + pair.repeat(5), 3, 106);
        bad(BASE + pair.repeat(4) + "pair", 3, 106);
        good(BASE + pile.repeat(6), 7);
        bad(BASE + pile.repeat(7), 3, 84);
        bad(BASE + pile.repeat(6) + "pile 61;", 3, 84);
        good(BASE + call.repeat(6) + pair.repeat(4) + pile.repeat(6), 17);
        good(BASE + "press 1;".repeat(7) + "halve takes 1;".repeat(7) + "slips her 1 his 1;".repeat(7)
            + "wish long 1 wide 1 either any;".repeat(7), 29);
        SheetByTwo x = told(BASE + call.repeat(6));
        due("a 7th one is told", tell(x, BASE + call.repeat(7)), -4);
        due("the six stay", x.count(0), 6);
    }

    private static void slots() {
        saidInTerms("SLOTS 0 .. 3 have rows of numbers of 1, 2, 4 or 8 bytes (WIDTH 0 .. 3), at most 60, or nothing.");
        long[] highest = {Byte.MAX_VALUE, Short.MAX_VALUE, Integer.MAX_VALUE, Long.MAX_VALUE};
        for (int width = 0; width < 4; width++) {
            for (int slot = 0; slot < 4; slot++) {
                SheetByTwo x = told(BASE + "press 999;");
                String name = "SLOT " + slot + ", WIDTH " + width + ", ";
                due(name + "nothing", x.packs(slot, 1), -6);
                due(name + "60", x.row(slot, width, 60), 0);
                due(name + "60 of 0", x.packs(slot, 1), 60);
                due(name + "61", x.row(slot, width, 61), -2);
                due(name + "0", x.row(slot, width, 0), 0);
                due(name + "none", x.packs(slot, 1), 0);
                fill(x, slot, width, 100, highest[width]);
                due(name + "the highest is above 0", x.packs(slot, 1), width == 0 ? 2 : 1);
                fill(x, slot, width, 0, highest[width] + 1);
                due(name + "what is above it is below 0", x.packs(slot, 1), -2);
                fill(x, slot, width, -highest[width] - 1);
                due(name + "the lowest is below 0", x.packs(slot, 1), -2);
                if (width < 3) {
                    fill(x, slot, width, 2 * highest[width] + 2 + 77);
                    due(name + "what is all above is cut", x.packs(slot, 0), 77);
                }
                for (int other = 0; other < 4; other++) {
                    due(name + "SLOT " + other, x.packs(other, 1) == -6 ? 0 : 1, other == slot ? 1 : 0);
                }
            }
        }
        SheetByTwo x = told(BASE);
        due("SLOT 4", x.row(4, 0, 1), -2);
        due("SLOT -1", x.row(-1, 0, 1), -2);
        due("WIDTH 4", x.row(0, 4, 1), -2);
        due("WIDTH -1", x.row(0, -1, 1), -2);
    }

    private static void twistBounds() {
        saidInTerms("TWIST (-2 .. 2).");
        SheetByTwo x = told(BASE + TWISTS);
        int[] then = {0, 0, 0, 1, 1, 1, 1, 1, 0, 0};
        int[] answers = {10, 10, -5, 11, 11, 11, 11, -5, 10, 10};
        int[] twists = {1, 2, 2, 1, 0, -1, -2, -2, -1, 0};
        for (int i = 0; i < then.length; i++) {
            due("CALL " + i, x.call(then[i]), answers[i]);
            due("TWIST behind CALL " + i, x.state(4), twists[i]);
        }
    }

    private static void firstState() {
        saidInTerms("At first as told, HEM top, FACE front, TWIST 0.");
        for (int n : new int[] {1, 47, 48}) {
            SheetByTwo x = told(sheet(n, 49 - n, 1));
            int[] first = {n, 49 - n, 0, 0, 0, 1, 1, 0};
            for (int what = 0; what < 8; what++) {
                due("state(" + what + ") of " + n, x.state(what), first[what]);
            }
        }
    }

    private static void layers() {
        saidInTerms("LAYERS: long times wide by LONG times WIDE.");
        SheetByTwo x = told("linen long 48 wide 48 thick 9 room 60 arms 1;");
        due("at first", x.state(5), 1);
        folds(x, 0, 1, 0, 1, 2, 3, 4, 5, 3, 8, 2);
        due("the smallest package: LONG", x.state(0), 1);
        due("the smallest package: WIDE", x.state(1), 1);
        due("its LAYERS", x.state(5), 2304);
        due("how thick", x.state(6), 20736);
    }

    private static void roomForMoves() {
        saidInTerms("all but 8, 9 ask that LONG is no more than room");
        for (int room : new int[] {1, 5, 6, 7, 60}) {
            SheetByTwo x = told(sheet(6, 6, room));
            for (int move = 0; move < 8; move++) {
                due("MOVE " + move + " of 6 in " + room, x.can(move), room >= 6 ? 1 : 0);
                due("it is done", x.fold(move), room >= 6 ? 5 : -5);
                x.anew();
            }
            x = told(sheet(6, 1, room));
            due("MOVE 8 of 6 in " + room, x.can(8), 1);
            due("it is done", x.fold(8), 5);
            due("MOVE 6 of 1 then", x.can(6), 1);
        }
        SheetByTwo x = told(sheet(6, 6, 6) + TWISTS);
        calls(x, 0);
        due("MOVE 9 of 6 in 6", x.can(9), 1);
    }

    private static void noTwistForMoves() {
        saidInTerms("all but 9 that TWIST is 0");
        for (int call = 0; call < 2; call++) {
            SheetByTwo x = told(BASE + TWISTS);
            for (int move = 0; move < 10; move++) {
                due("MOVE " + move + " at first", x.can(move), move < 9 ? 1 : 0);
            }
            for (int times = 1; times <= 2; times++) {
                calls(x, call);
                for (int move = 0; move < 10; move++) {
                    due("MOVE " + move + " twisted " + times, x.can(move), move < 9 ? 0 : 1);
                    due("fold " + move + " twisted " + times, move < 9 ? x.fold(move) : -5, -5);
                }
            }
            folds(x, 9, 9);
            due("untwisted", x.moves(), 511);
        }
    }

    private static void evenWide() {
        saidInTerms("0 TOP: WIDE is even: half of it");
        evenWideFor(0);
        saidInTerms("1 BOTTOM: WIDE is even: half");
        evenWideFor(1);
    }

    private static void evenWideFor(int move) {
        for (int wide = 1; wide <= 48; wide++) {
            SheetByTwo x = told(sheet(5, wide, 60));
            due("can(" + move + ") of WIDE " + wide, x.can(move), wide % 2 == 0 ? 1 : 0);
            due("fold(" + move + ") of WIDE " + wide, x.fold(move), wide % 2 == 0 ? 5 : -5);
            due("WIDE then", x.state(1), wide % 2 == 0 ? wide / 2 : wide);
            due("LONG then", x.state(0), 5);
        }
    }

    private static void wideByThree() {
        saidInTerms("2 THIRD: WIDE by 3 without rest: a third");
        for (int wide = 1; wide <= 48; wide++) {
            SheetByTwo x = told(sheet(5, wide, 60));
            due("can(2) of WIDE " + wide, x.can(2), wide % 3 == 0 ? 1 : 0);
            due("fold(2) of WIDE " + wide, x.fold(2), wide % 3 == 0 ? 5 : -5);
            due("WIDE then", x.state(1), wide % 3 == 0 ? wide / 3 : wide);
        }
    }

    private static void evenLong() {
        saidInTerms("3 HERS: LONG is even: half");
        evenLongFor(3);
        saidInTerms("4 HIS: LONG is even: half");
        evenLongFor(4);
        saidInTerms("5 BOTH: LONG is even: half");
        evenLongFor(5);
    }

    private static void evenLongFor(int move) {
        for (int longOne = 1; longOne <= 48; longOne++) {
            SheetByTwo x = told(sheet(longOne, 5, 60));
            due("can(" + move + ") of LONG " + longOne, x.can(move), longOne % 2 == 0 ? 1 : 0);
            due("fold(" + move + ") of LONG " + longOne, x.fold(move), longOne % 2 == 0 ? 5 : -5);
            due("LONG then", x.state(0), longOne % 2 == 0 ? longOne / 2 : longOne);
            due("WIDE then", x.state(1), 5);
        }
    }

    /** What a MOVE makes of each HEM (top, bottom, left, right, in) and each FACE. */
    private static void hems(int move, boolean changes, String sentence, int... hems) {
        saidInTerms(sentence);
        int[][] rows = {{}, {7}, {7, 8}, {8}, {2, 6}, {6, 7}, {6}, {7, 8, 6}, {8, 6}, {2}};
        for (int i = 0; i < 10; i++) {
            SheetByTwo x = told(sheet(36, 36, 60));
            folds(x, rows[i]);
            due("HEM " + i % 5, x.state(2), i % 5);
            due("FACE " + i / 5, x.state(3), i / 5);
            folds(x, move);
            due("MOVE " + move + ", HEM " + i % 5 + ", FACE " + i / 5 + ": HEM then", x.state(2), hems[i % 5]);
            due("MOVE " + move + ", HEM " + i % 5 + ", FACE " + i / 5 + ": FACE then", x.state(3), changes ? 1 - i / 5 : i / 5);
            due("TWIST", x.state(4), 0);
        }
    }

    private static void hems() {
        hems(0, true, "HEM top becomes bottom, FACE changes.", 1, 1, 2, 3, 4);
        hems(1, false, "HEM bottom becomes top.", 0, 0, 2, 3, 4);
        hems(2, true, "HEM top, bottom become in, FACE changes.", 4, 4, 2, 3, 4);
        hems(3, true, "HEM left becomes right, FACE changes.", 0, 1, 3, 3, 4);
        hems(4, false, "HEM right becomes left.", 0, 1, 2, 2, 4);
        hems(5, true, "HEM left, right become in, FACE changes.", 0, 1, 4, 4, 4);
        hems(6, true, "TURN: FACE changes, HEM top, bottom change.", 1, 0, 2, 3, 4);
        hems(7, false, "ROUND: HEM top and bottom, left and right change.", 1, 0, 3, 2, 4);
        hems(8, false, "HEM top becomes right, right bottom, bottom left, left top.", 3, 2, 0, 1, 4);
    }

    private static void hemsFrom(String name, int[] ahead, int move, int... hems) {
        SheetByTwo x = told(sheet(8, 8, 60));
        folds(x, ahead);
        for (int i = 0; i < hems.length; i++) {
            folds(x, move);
            due(name + ", time " + (i + 1), x.state(2), hems[i]);
        }
    }

    private static void turns() {
        saidInTerms("6 TURN: FACE changes, HEM top, bottom change.");
        hemsFrom("from top", new int[] {}, 6, 1, 0, 1, 0);
        hemsFrom("from right", new int[] {8}, 6, 3, 3);
        SheetByTwo x = told(BASE);
        folds(x, 6);
        due("back", x.state(3), 1);
        folds(x, 6);
        due("front again", x.state(3), 0);
        saidInTerms("7 ROUND: HEM top and bottom, left and right change.");
        hemsFrom("from top", new int[] {}, 7, 1, 0, 1, 0);
        hemsFrom("from right", new int[] {8}, 7, 2, 3, 2, 3);
        folds(x, 7);
        due("FACE stays", x.state(3), 0);
    }

    private static void quarters() {
        saidInTerms("8 QUARTER: WIDE is no more than room");
        for (int wide = 1; wide <= 48; wide++) {
            SheetByTwo x = told(sheet(48, wide, 24));
            due("WIDE " + wide + " in 24", x.can(8), wide <= 24 ? 1 : 0);
            due("WIDE " + wide + " in 24, folded", x.fold(8), wide <= 24 ? 5 : -5);
        }
        saidInTerms("LONG and WIDE change, HEM top becomes right, right bottom, bottom left, left top.");
        hemsFrom("round and round", new int[] {}, 8, 3, 1, 2, 0, 3);
        SheetByTwo x = told(sheet(7, 5, 9));
        folds(x, 8);
        due("LONG", x.state(0), 5);
        due("WIDE", x.state(1), 7);
        folds(x, 8);
        due("LONG again", x.state(0), 7);
    }

    private static void untwists() {
        saidInTerms("9 UNTWIST: TWIST is not 0: one nearer to it.");
        for (int call = 0; call < 2; call++) {
            SheetByTwo x = told(BASE + TWISTS);
            due("at 0", x.fold(9), -5);
            calls(x, call, call);
            due("at two", x.fold(9), 5);
            due("TWIST", x.state(4), call == 0 ? 1 : -1);
            due("at one", x.fold(9), 5);
            due("TWIST", x.state(4), 0);
            due("at 0 again", x.fold(9), -5);
            due("at 0 again", x.can(9), 0);
        }
    }

    private static void seconds() {
        saidInTerms("SECONDS: halve 0, 1; third 2; meet 3, 4, 5; turn 6, 7; quarter 8; untwist 9.");
        String takes = "halve takes 11;third takes 12;meet takes 13;turn takes 14;quarter takes 15;untwist takes 16;";
        for (int move = 0; move < 10; move++) {
            due("MOVE " + move, secondsOf(takes, move), 11 + MOVING_OF[move]);
        }
    }

    private static void callTwists() {
        saidInTerms("(LONG no more than room, WIDE even, TWIST no more than 2 then, no less than -2; of halve's SECONDS)");
        for (int call = 0; call < 2; call++) {
            due("LONG as room", told(sheet(6, 6, 6) + TWISTS).call(call), 10 + call);
            due("LONG above room", told(sheet(6, 6, 5) + TWISTS).call(call), -5);
            due("WIDE 1", told(sheet(6, 1, 6) + TWISTS).call(call), -5);
            due("WIDE 2", told(sheet(6, 2, 6) + TWISTS).call(call), 10 + call);
            due("WIDE 3", told(sheet(6, 3, 6) + TWISTS).call(call), -5);
            due("LONG odd", told(sheet(5, 2, 6) + TWISTS).call(call), 10 + call);
            due("WIDE above room", told(sheet(5, 8, 6) + TWISTS).call(call), 10 + call);
            SheetByTwo x = told(BASE + TWISTS + "halve takes 9;");
            calls(x, call, call);
            due("a third one", x.call(call), -5);
            due("SECONDS", x.state(7), 18);
            due("all else as it was: WIDE", x.state(1), 6);
            due("all else as it was: HEM", x.state(2), 0);
            due("all else as it was: FACE", x.state(3), 0);
        }
    }

    private static void nothingCalls() {
        saidInTerms("All else (and both stay) is nothing.");
        for (int i = 0; i < 16; i++) {
            String text = "call her " + ACTS[i / 4] + " his " + ACTS[i % 4] + ";";
            boolean nothing = MEANS[i] == 12;
            SheetByTwo x = told(BASE + text + TWISTS);
            due(text, x.call(0), MEANS[i]);
            due(text + " SECONDS", x.state(7) == 0 ? 1 : 0, nothing ? 1 : 0);
            x.anew();
            calls(x, 1, 1);
            due(text + " twisted", x.call(0) == 12 ? 1 : 0, nothing ? 1 : 0);
            due(text + " twisted, done", x.count(6) == 3 ? 1 : 0, nothing || MEANS[i] == 11 ? 1 : 0);
            x = told(sheet(7, 7, 1) + text);
            due(text + " without room", x.call(0), nothing ? 12 : -5);
        }
    }

    private static void wished() {
        saidInTerms("FEWEST: of MOVES 0 .. 9 from the STATE on till it is as wished (LONG, WIDE, FACE, HEM, TWIST 0)");
        String small = sheet(1, 1, 9);
        due("as it is", told(small + "wish long 1 wide 1 front top;").fewest(), 0);
        due("another FACE", told(small + "wish long 1 wide 1 back bottom;").fewest(), 1);
        due("another HEM", told(small + "wish long 1 wide 1 front bottom;").fewest(), 1);
        due("another LONG", told(small + "wish long 2 wide 1 front top;").fewest(), NONE);
        due("another WIDE", told(small + "wish long 1 wide 2 front top;").fewest(), NONE);
        SheetByTwo x = told(BASE + TWISTS + "wish long 6 wide 6 front top;");
        calls(x, 0);
        due("another TWIST", x.fewest(), 1);
        calls(x, 1, 1, 1);
        due("two of TWIST", x.fewest(), 2);
        for (int move = 0; move < 9; move++) {
            x = told(sheet(6, 6, 6) + wishBehind(move));
            due("one MOVE " + move, x.fewest(), 1);
        }
        due("five halves, a QUARTER, a THIRD", told(sheet(12, 8, 12) + "wish long 1 wide 1 either any;").fewest(), 7);
    }

    /** A wish for the STATE that 6 by 6 has behind a MOVE. */
    private static String wishBehind(int move) {
        SheetByTwo x = told(sheet(6, 6, 6));
        folds(x, move);
        return "wish long " + x.state(0) + " wide " + x.state(1) + " " + FACINGS[x.state(3)] + " " + HEMMINGS[x.state(2)] + ";";
    }

    private static void firstRow() {
        saidInTerms("the first row: the least row of MOVES.");
        SheetByTwo x = told(sheet(4, 4, 4) + "wish long 2 wide 2 either any;");
        due("TOP before HERS", x.step(0), 0);
        due("HERS", x.step(1), 3);
        x = told(sheet(4, 4, 4) + "wish long 2 wide 2 front any;");
        due("TOP, HERS: front again", x.step(0), 0);
        due("HERS", x.step(1), 3);
        x = told(sheet(4, 4, 4) + "wish long 2 wide 2 back any;");
        due("TOP and HIS", x.step(0), 0);
        due("HIS", x.step(1), 4);
        x = told(sheet(4, 4, 4) + "wish long 4 wide 4 front left;");
        due("ROUND and QUARTER", x.fewest(), 2);
        due("ROUND", x.step(0), 7);
        due("QUARTER", x.step(1), 8);
    }

    private static void quickestRow() {
        saidInTerms("QUICKEST: least SECONDS, the least row of MOVES of these.");
        String wish = "wish long 4 wide 2 either any;meet takes 2;quarter takes 1;";
        SheetByTwo x = told(sheet(4, 4, 4) + wish + "halve takes 2;");
        due("one of 2", x.quickest(), 2);
        due("TOP", x.quick(0), 0);
        x = told(sheet(4, 4, 4) + wish + "halve takes 3;");
        due("TOP of 3, HERS and QUARTER of 3", x.quickest(), 3);
        due("the least row", x.quick(0), 0);
        due("of one", x.quick(1), NONE);
        x = told(sheet(4, 4, 4) + wish + "halve takes 4;");
        due("TOP of 4, HERS and QUARTER of 3", x.quickest(), 3);
        due("HERS", x.quick(0), 3);
        due("QUARTER", x.quick(1), 8);
        due("no more", x.quick(2), NONE);
        x = told(sheet(4, 4, 4) + "wish long 2 wide 4 either any;meet takes 3;quarter takes 1;halve takes 2;");
        due("TOP and QUARTER of 3, HERS of 3", x.quickest(), 3);
        due("the least row, though it is longer", x.quick(0), 0);
        due("QUARTER", x.quick(1), 8);
        x = told(sheet(4, 1, 4) + "wish long 2 wide 1 back any;meet takes 99;turn takes 1;");
        due("QUARTER, TOP, QUARTER", x.quickest(), 15);
        due("fewest is HERS", x.step(0), 3);
        due("quickest is not", x.quick(0), 8);
        due("TOP", x.quick(1), 0);
        due("QUARTER", x.quick(2), 8);
        x = told(sheet(4, 4, 4) + "wish long 4 wide 4 front left;turn takes 99;quarter takes 30;");
        due("three QUARTERS", x.quickest(), 90);
        for (int i = 0; i < 3; i++) {
            due("QUARTER " + i, x.quick(i), 8);
        }
        due("fewest is ROUND, QUARTER", x.fewest(), 2);
    }

    private static void byMyself() {
        saidInTerms("ALONE: MOVES 0, 1, 2 if LONG is no more than arms, 3, 6, 7, 8, 9, whatever the room.");
        for (int arms = 4; arms <= 7; arms++) {
            String text = "linen long 6 wide 6 thick 1 room 1 arms " + arms + ";";
            due("TOP, arms " + arms, told(text + wishBehind(0)).alone() == 1 ? 1 : 0, arms >= 6 ? 1 : 0);
            due("BOTTOM, arms " + arms, told(text + wishBehind(1)).alone() == 1 ? 1 : 0, arms >= 6 ? 1 : 0);
            due("THIRD, arms " + arms, told(text + wishBehind(2)).alone() == 1 ? 1 : 0, arms >= 6 ? 1 : 0);
            due("HERS, arms " + arms, told(text + wishBehind(3)).alone(), 1);
            due("not HIS, arms " + arms, told(text + wishBehind(4)).alone() == 1 ? 1 : 0, 0);
            due("TURN, arms " + arms, told(text + wishBehind(6)).alone(), 1);
            due("ROUND, arms " + arms, told(text + wishBehind(7)).alone(), 1);
            due("QUARTER, arms " + arms, told(text + wishBehind(8)).alone(), 1);
        }
        SheetByTwo x = told("linen long 7 wide 2 thick 1 room 60 arms 60;wish long 1 wide 7 either in;");
        folds(x, 8);
        due("BOTH brings it in", x.fewest(), 1);
        due("not BOTH", x.alone(), NONE);
        x = told("linen long 6 wide 6 thick 1 room 6 arms 1;wish long 6 wide 6 front top;" + TWISTS);
        calls(x, 0, 0);
        due("UNTWIST", x.alone(), 2);
        due("UNTWIST", x.rail(0), 9);
    }

    private static void byCalls() {
        saidInTerms("BY CALLS: CALLS alone, as told without slips, and UNTWIST.");
        String text = sheet(4, 4, 4) + "call her top his top;wish long 4 wide 2 back bottom;";
        due("one CALL", told(text).called(), 1);
        due("whatever slips", told(text + "slips her 50 his 50;").called(), 1);
        due("none told", told(sheet(4, 4, 4) + "wish long 4 wide 2 back bottom;").called(), NONE);
        due("none told, as it is", told(sheet(4, 4, 4) + "wish long 4 wide 4 front top;").called(), 0);
        SheetByTwo x = told(text + TWISTS);
        calls(x, 1, 1);
        due("untwisted first", x.called(), 3);
        x = told(sheet(4, 4, 4) + "call her top his bottom;wish long 4 wide 4 front top;");
        calls(x, 0, 0);
        due("UNTWIST alone", x.called(), 2);
        due("no TURN", told(sheet(4, 4, 4) + "call her walk his stay;wish long 4 wide 4 back bottom;").called(), NONE);
    }

    private static void slipsApart() {
        saidInTerms("top and bottom are taken for one another by her, by him, so many of a hundred times each, apart; "
            + "walk, stay never.");
        String calls = "call her top his stay;call her bottom his walk;call her stay his top;call her walk his bottom;"
            + "call her walk his stay;call her bottom his top;";
        int[][] slips = {{0, 0}, {1, 0}, {0, 1}, {50, 49}, {50, 50}, {37, 3}};
        for (int[] of : slips) {
            SheetByTwo x = told(BASE + calls + "slips her " + of[0] + " his " + of[1] + ";");
            int[] above = {(100 - of[0]) * 100, (100 - of[0]) * 100, (100 - of[1]) * 100, (100 - of[1]) * 100, 10000,
                (100 - of[0]) * (100 - of[1])};
            for (int call = 0; call < 6; call++) {
                int by = BigInteger.valueOf(above[call]).gcd(BigInteger.valueOf(10000)).intValue();
                due("slips " + of[0] + ", " + of[1] + ", CALL " + call + ", above", x.right(call, 0), above[call] / by);
                due("slips " + of[0] + ", " + of[1] + ", CALL " + call + ", below", x.right(call, 1), 10000 / by);
            }
        }
    }

    private static void lowestTerms() {
        saidInTerms("FRACTIONS are told in lowest terms (0 / 1).");
        SheetByTwo x = told(BASE + "call her top his top;call her stay his stay;call her top his bottom;");
        due("never, above", x.twists(0, 0), 0);
        due("never, below", x.twists(0, 1), 1);
        due("never, above", x.twists(1, 0), 0);
        due("never, below", x.twists(1, 1), 1);
        due("ever, above", x.twists(2, 0), 1);
        due("ever, below", x.twists(2, 1), 1);
        due("ever, above", x.right(1, 0), 1);
        due("ever, below", x.right(1, 1), 1);
        due("5 whole, above", x.mend(0, 0), 5);
        due("5 whole, below", x.mend(0, 1), 1);
        x = told(BASE + "call her top his top;slips her 1 his 1;");
        due("9801 of 10000, above", x.right(0, 0), 9801);
        due("9801 of 10000, below", x.right(0, 1), 10000);
        due("198 of 10000, above", x.twists(0, 0), 99);
        due("198 of 10000, below", x.twists(0, 1), 5000);
    }

    private static void mended() {
        saidInTerms("MEND of a CALL that is TOP or BOTTOM: done; as often as it is a TWIST, untwisted and called again: "
            + "mean SECONDS.");
        for (String act : new String[] {"top", "bottom"}) {
            String text = BASE + "call her " + act + " his " + act + ";halve takes 99;untwist takes 1;";
            due("no slips, above", told(text).mend(0, 0), 99);
            due("no slips, below", told(text).mend(0, 1), 1);
            due("slips 50, above", told(text + "slips her 50 his 50;").mend(0, 0), 199);
            due("slips 50, below", told(text + "slips her 50 his 50;").mend(0, 1), 1);
            due("slips 50 of hers, above", told(text + "slips her 50 his 0;").mend(0, 0), 199);
            due("slips 1 of his, above", told(text + "slips her 0 his 1;").mend(0, 0), 9901);
            due("slips 1 of his, below", told(text + "slips her 0 his 1;").mend(0, 1), 99);
        }
    }

    private static void learned() {
        saidInTerms("LEARN: a PAIR's k-th sheet (k 0 and above) takes its seconds and what it learns by k and 1, cut.");
        SheetByTwo x = told(BASE + "pair 7 learns 11;pair 1 learns 999;pair 99 learns 0;");
        int[] all = {0, 18, 30, 40, 49, 58, 66, 74, 82, 90, 98, 106, 113, 120};
        for (int n = 0; n < all.length; n++) {
            due("the first " + n, x.learn(0, n), all[n]);
        }
        due("the 998th from 0", x.learn(1, 999) - x.learn(1, 998), 2);
        due("nothing to learn", x.learn(2, 999), 98901);
        due("half of 999, cut", x.learn(1, 2), 1000 + 500);
    }

    private static void shared() {
        saidInTerms("PILES: each is one PAIR's; a PAIR folds the sheets of all of its together; the least SECONDS till the last "
            + "one is through; the first: the least row of PAIRS.");
        SheetByTwo x = told(BASE + "pair 5 learns 0;pair 5 learns 0;pile 2;pile 2;");
        due("one each", x.friday(), 10);
        due("the first is 0's", x.given(0), 0);
        due("the second 1's", x.given(1), 1);
        x = told(BASE + "pair 5 learns 60;pair 50 learns 0;pile 1;pile 1;");
        due("learned of both together", told(BASE + "pair 5 learns 60;pile 1;pile 1;").friday(), 100);
        due("one each", x.friday(), 65);
        x = told(BASE + "pair 1 learns 0;pair 99 learns 0;pile 60;pile 1;pile 1;");
        due("all of one", x.friday(), 62);
        due("all of one", x.given(0) + x.given(1) + x.given(2), 0);
        x = told(BASE + "pair 99 learns 0;pair 1 learns 0;pile 1;pile 60;pile 60;pile 60;");
        due("0 gets as much as does no harm", x.friday(), 180);
        due("the least row", x.given(0), 0);
        due("the least row", x.given(1), 1);
        x = told(BASE + "pair 9 learns 0;".repeat(4) + "pile 1;");
        due("one PILE", x.given(0), 0);
        x = told(BASE + "pair 9 learns 0;".repeat(4) + "pile 3;".repeat(6));
        int[] first = {0, 0, 1, 1, 2, 2};
        due("six of three for four", x.friday(), 54);
        for (int i = 0; i < 6; i++) {
            due("PILE " + i, x.given(i), first[i]);
        }
    }

    private static void modulus() {
        saidInTerms("DRAWS: x becomes (1103515245 x + 12345) modulo 2,147,483,648 (at first it is the seed)");
        SheetByTwo x = told(BASE + "call her top his stay;slips her 50 his 0;");
        fill(x, 0, 0, sixty(0));
        for (int seed : new int[] {0, 1, 12345, 65535, 65536, 1_000_000_000, 1_999_999_999, 2_000_000_000}) {
            due("slips of 60 from " + seed, x.slipped(seed, 0), below(draws(seed, 60), 50));
        }
    }

    private static void drawCut() {
        saidInTerms("it slips, if it is below slips.");
        for (int slips : new int[] {0, 1, 2, 25, 49, 50}) {
            SheetByTwo x = told(BASE + "call her top his stay;call her stay his bottom;slips her " + slips + " his " + slips + ";");
            fill(x, 0, 0, 0);
            fill(x, 1, 0, 1);
            for (int seed = 0; seed < 200; seed++) {
                int draw = draws(seed, 1)[0];
                due("her draw " + draw + ", slips " + slips, x.slipped(seed, 0), draw < slips ? 1 : 0);
                due("his draw " + draw + ", slips " + slips, x.slipped(seed, 1), draw < slips ? 1 : 0);
            }
        }
    }

    private static void drawOrder() {
        saidInTerms("CALLS drawn: of each a draw for her, if she is told top or bottom, then for him likewise");
        String calls = "call her top his bottom;call her walk his bottom;call her bottom his stay;call her walk his walk;";
        for (int seed = 0; seed < 100; seed++) {
            SheetByTwo x = told(BASE + calls + "slips her 50 his 0;");
            fill(x, 0, 0, 3, 0, 1, 2, 0);
            int[] d = draws(seed, 6);
            due("hers of seed " + seed, x.slipped(seed, 0), below(new int[] {d[0], d[3], d[4]}, 50));
            x = told(BASE + calls + "slips her 0 his 50;");
            fill(x, 0, 0, 3, 0, 1, 2, 0);
            due("his of seed " + seed, x.slipped(seed, 0), below(new int[] {d[1], d[2], d[5]}, 50));
        }
    }
}
