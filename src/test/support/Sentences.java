import java.io.IOException;
import java.math.BigInteger;
import java.nio.charset.StandardCharsets;
import java.nio.file.Files;
import java.nio.file.Path;
import java.util.ArrayList;
import java.util.Arrays;
import java.util.LinkedHashMap;
import java.util.List;
import java.util.Map;
import java.util.regex.Matcher;
import java.util.regex.Pattern;

/**
 * For tests that go through the document sentence by sentence: which sentence is asked next, what is not as due, and
 * that each sentence has a check, still stands in the document, and none that names an edge is left out.
 */
abstract class Sentences {
    static final int NONE = SheetByTwo.NONE;
    static final int LOW = Integer.MIN_VALUE;
    static final int HIGH = Integer.MAX_VALUE;
    static final String BASE = "linen long 6 wide 6 thick 1 room 6 arms 6;";
    static final String TWISTS = "call her top his bottom;call her bottom his top;";
    static final String[] ACTS = {"top", "bottom", "walk", "stay"};
    /** By her ACT, then by his: which MOVE a CALL is, 10 and 11 a TWIST, 12 nothing. */
    static final int[] MEANS = {0, 10, 12, 12, 11, 1, 12, 12, 12, 12, 5, 3, 12, 12, 4, 12};
    /** A LINEN that tells some of all there is. */
    static final String ALL = BASE + "halve takes 4;call her top his top;call her top his bottom;call her walk his stay;"
        + "slips her 10 his 20;wish long 3 wide 3 either any;press 7;pair 5 learns 9;pair 6 learns 1;pile 3;pile 2;";

    private static final Path DOCUMENT = Path.of("../shared/DOC.md");
    /** What a document's words look like that name a bound, an empty or a full thing, or a refusal. */
    private static final Pattern EDGE = Pattern.compile(
        "NONE|-[1-9]|\\d \\.\\. |nothing|asked last|empty|without|none |[Ff]irst|strikes|all stays|SLOT stays|\\b[Aa]ll |bounds?\\b|alone|"
        + "no more|no less|at most|at least|longest|never|lowest|least|apart");

    private static final Map<String, Integer> checks = new LinkedHashMap<>();
    private static final Map<String, List<String>> saidUnder = new LinkedHashMap<>();
    private static final String document = readDocument();
    private static String now = "";
    private static int wrong = 0;

    /** The checks behind this are of a sentence (or a part of one) of the Terms. */
    static void saidInTerms(String sentence) {
        said("## Terms ", sentence);
    }

    /** The checks behind this are of a sentence (or a part of one) of a promise. */
    static void said(int promise, String sentence) {
        said("## Promise " + promise + ": ", sentence);
    }

    /** The checks behind this are of a sentence of what the class is. */
    static void saidOfAll(String sentence) {
        said("## What it is ", sentence);
    }

    private static void said(String heading, String sentence) {
        now = heading + sentence;
        if (checks.putIfAbsent(now, 0) != null) {
            fault("the sentence is said twice");
        }
        saidUnder.computeIfAbsent(heading, none -> new ArrayList<>()).add(sentence);
        if (!document.isEmpty() && !section(heading).contains(sentence)) {
            fault("the document does not say so");
        }
    }

    static void due(String what, long got, long want) {
        checks.merge(now, 1, Integer::sum);
        if (got != want) {
            fault(what + " answered " + got + ", due is " + want);
        }
    }

    static void fault(String what) {
        wrong++;
        System.out.println("[" + now + "] " + what);
    }

    /** Ends the test: 1 if something was not as due. */
    static void finish() {
        checks.forEach((sentence, count) -> {
            if (count == 0) {
                now = sentence;
                fault("no check");
            }
        });
        System.out.println(wrong == 0 ? checks.size() + " sentences hold" : wrong + " answers are not as due");
        if (wrong != 0) {
            System.exit(1);
        }
    }

    /** Nothing under these promises that names an edge may be left unsaid. */
    static void allSaid(int fromPromise, int toPromise) {
        for (int promise = fromPromise; promise <= toPromise; promise++) {
            allSaid("## Promise " + promise + ": ");
        }
    }

    static void allSaidInTerms() {
        allSaid("## Terms ");
    }

    private static void allSaid(String heading) {
        String left = section(heading).replaceFirst("^## Promise.*?\\) : ", "");
        for (String sentence : saidUnder.getOrDefault(heading, List.of())) {
            left = left.replace(sentence, " # ");
        }
        now = heading;
        Matcher edge = EDGE.matcher(left);
        if (edge.find()) {
            fault("no test of '" + edge.group() + "' in: " + left);
        }
    }

    private static String readDocument() {
        try {
            return Files.readString(DOCUMENT).replaceAll("[`\\s]+", " ");
        } catch (IOException e) {
            System.out.println("the document is not here: its words are not looked at");
            return "";
        }
    }

    private static String section(String heading) {
        int from = document.indexOf(heading);
        int to = from < 0 ? -1 : document.indexOf(" ## ", from);
        return from < 0 ? "" : to < 0 ? document.substring(from) : document.substring(from, to);
    }

    static void feedText(SheetByTwo x, String text) {
        byte[] bytes = Arrays.copyOf(text.getBytes(StandardCharsets.ISO_8859_1), (text.length() + 19) / 20 * 20);
        for (int i = 0; i < bytes.length; i += 20) {
            int[] v = new int[5];
            for (int k = 0; k < 20; k++) {
                v[k / 4] = v[k / 4] << 8 | bytes[i + k] & 255;
            }
            x.feed(v[0], v[1], v[2], v[3], v[4]);
        }
        x.end(text.length());
    }

    static int tell(SheetByTwo x, String text) {
        feedText(x, text);
        return x.linen();
    }

    static SheetByTwo told(String text) {
        SheetByTwo x = new SheetByTwo();
        int lines = tell(x, text);
        if (lines <= 0) {
            fault("not told (" + lines + "): " + text);
        }
        return x;
    }

    /** Objects without a LINEN, all of whose SLOTS but 3 have a row: new; told none in place of one; gone back to none. */
    static SheetByTwo[] bare() {
        SheetByTwo[] all = {new SheetByTwo(), told(ALL), new SheetByTwo()};
        folds(all[1], 0, 8);
        tell(all[1], "");
        all[2].image(2);
        tell(all[2], ALL);
        all[2].back(2);
        for (SheetByTwo x : all) {
            for (int slot = 0; slot < 3; slot++) {
                fill(x, slot, 0, 0);
            }
        }
        return all;
    }

    /** A call of an object. */
    interface Question {
        long of(SheetByTwo x);
    }

    static void withoutLinen(String what, Question question) {
        for (SheetByTwo x : bare()) {
            due(what + " without LINEN", question.of(x), -2);
        }
    }

    /** A LINEN without a wish, and one in place of another with a wish. */
    static void withoutWish(String what, Question question) {
        SheetByTwo x = told(BASE);
        due(what + " without a wish", question.of(x), -2);
        tell(x, ALL);
        due(what + " with a wish", question.of(x) == -2 ? 1 : 0, 0);
        tell(x, BASE);
        due(what + " without a wish now", question.of(x), -2);
    }

    /** A number of bytes 32 with one other byte among them, as feed() takes it. */
    static int blanksWith(int at, int sign) {
        int all = 0;
        for (int i = 0; i < 4; i++) {
            all = all << 8 | (i == at ? sign : 32);
        }
        return all;
    }

    static String sheet(int l, int w, int room) {
        return "linen long " + l + " wide " + w + " thick 1 room " + room + " arms 60;";
    }

    static void fill(SheetByTwo x, int slot, int width, long... v) {
        int made = x.row(slot, width, v.length);
        for (int i = 0; i < v.length; i++) {
            made |= x.write(slot, i, v[i]);
        }
        if (made != 0) {
            fault("a row of " + v.length + " is not made");
        }
    }

    /** A full row, all of one number. */
    static long[] sixty(long v) {
        long[] row = new long[60];
        Arrays.fill(row, v);
        return row;
    }

    static void folds(SheetByTwo x, int... moves) {
        for (int move : moves) {
            if (x.fold(move) < 0) {
                fault("a fold of " + Arrays.toString(moves) + " can't be");
            }
        }
    }

    static void calls(SheetByTwo x, int... calls) {
        for (int call : calls) {
            if (x.call(call) < 0) {
                fault("a call of " + Arrays.toString(calls) + " can't be");
            }
        }
    }

    /** The first draws from a seed. */
    static int[] draws(long seed, int n) {
        BigInteger x = BigInteger.valueOf(seed);
        int[] all = new int[n];
        for (int i = 0; i < n; i++) {
            x = x.multiply(BigInteger.valueOf(1103515245)).add(BigInteger.valueOf(12345)).mod(BigInteger.ONE.shiftLeft(31));
            all[i] = x.divide(BigInteger.valueOf(65536)).mod(BigInteger.valueOf(100)).intValue();
        }
        return all;
    }

    /** How many draws are below a bound. */
    static int below(int[] draws, int bound) {
        int n = 0;
        for (int draw : draws) {
            n += draw < bound ? 1 : 0;
        }
        return n;
    }

    /** Both parts of a fraction. */
    static void fraction(String what, long above, long below, long wantAbove, long wantBelow) {
        due(what + ", above", above, wantAbove);
        due(what + ", below", below, wantBelow);
    }

    /** A text that is a LINEN. */
    static void good(String text, int lines) {
        SheetByTwo x = new SheetByTwo();
        due("linen() of " + text, tell(x, text), lines);
        due("fault(0) of " + text, x.fault(0), 0);
        due("fault(1) of " + text, x.fault(1), NONE);
    }

    /** A text with a FAULT. */
    static void bad(String text, int code, int place) {
        SheetByTwo x = new SheetByTwo();
        due("linen() of " + text, tell(x, text), -4);
        due("fault(0) of " + text, x.fault(0), code);
        due("fault(1) of " + text, x.fault(1), place);
    }

    /** What calls that change nothing tell of an object: some eighty of its calls, and what was done. */
    static long[] seen(SheetByTwo x) {
        long[] all = new long[160];
        int n = 0;
        for (int what = 0; what < 8; what++) {
            all[n++] = x.state(what);
        }
        for (int what = 0; what <= 10; what++) {
            all[n++] = x.count(what);
        }
        for (int slot = 0; slot < 4; slot++) {
            all[n++] = x.packs(slot, 0);
            all[n++] = x.packs(slot, 1);
            all[n++] = x.plan(slot);
            all[n++] = x.chance(slot, 0);
        }
        for (int call = 0; call < 6; call++) {
            all[n++] = x.means(call);
            all[n++] = x.right(call, 0);
        }
        for (int pair = 0; pair < 4; pair++) {
            all[n++] = x.learn(pair, 9);
        }
        all[n++] = x.moves();
        all[n++] = x.fewest();
        all[n++] = x.quickest();
        all[n++] = x.alone();
        all[n++] = x.friday();
        all[n++] = x.fits();
        int done = x.count(6);
        for (int i = 0; i < done; i++) {
            all[n++] = x.led(i);
        }
        return all;
    }

    static void stays(String what, SheetByTwo x, long[] before) {
        long[] after = seen(x);
        for (int i = 0; i < before.length; i++) {
            if (after[i] != before[i]) {
                fault(what + ": what is seen as " + i + " was " + before[i] + ", is " + after[i]);
            }
        }
        due(what + ", all stays", Arrays.equals(before, after) ? 1 : 0, 1);
    }
}
