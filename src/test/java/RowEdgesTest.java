/** The sentences of promises 53 to 58 that name an edge: counts, IMAGES, SLOTS. */
public final class RowEdgesTest extends Sentences {
    private static final int[] NO_SLOT = {-1, 4, 5, LOW, HIGH};
    private static final String PRESS = BASE + "press 999;";

    public static void main(String[] args) {
        counts();
        countNone();
        image();
        imageCodes();
        back();
        backCodes();
        row();
        rowCodes();
        rowBelow();
        write();
        writeCodes();
        paste();
        pasteCodes();
        pasteNothing();
        pasteWidths();
        pasteBeyond();
        allSaid(53, 58);
        finish();
    }

    private static void counts() {
        said(53, "0 CALLS, 1 PAIRS, 2 PILES, 3 room, 4 arms, 5 press (0: none), 6 MOVES and CALLS that were done, "
            + "7 1 if something is wished, else 0, 8 LINES, 9 bytes of the TAPE, 10 SLOTS that have a row.");
        String most = "linen long 1 wide 1 thick 1 room 60 arms 60;" + "call her top his walk;".repeat(6)
            + "pair 1 learns 0;".repeat(4) + "pile 1;".repeat(6) + "press 999;wish long 1 wide 1 either any;";
        String[] texts = {"linen long 1 wide 1 thick 1 room 1 arms 1;", most};
        int[][] wants = {{0, 0, 0, 1, 1, 0, 0, 0, 1, 0, 0}, {6, 4, 6, 60, 60, 999, 60, 1, 19, 1000, 4}};
        for (int full = 0; full < 2; full++) {
            SheetByTwo x = told(texts[full]);
            for (int i = 0; i < 60 && full == 1; i++) {
                due("done " + i, x.count(6), i);
                if (i < 50) {
                    x.feed(0, 0, 0, 0, 0);
                }
                x.call(i % 6);
                x.row(i % 4, i % 3, i);
                due("SLOTS " + i, x.count(10), Math.min(4, i + 1));
            }
            for (int what = 0; what <= 10; what++) {
                due("count(" + what + ")", x.count(what), wants[full][what]);
            }
        }
        SheetByTwo x = told(most);
        x.row(2, 0, 61);
        x.row(2, 0, -1);
        x.row(2, 4, 1);
        due("SLOTS behind refused rows", x.count(10), 0);
        x.row(2, 0, 0);
        due("a row of none counts", x.count(10), 1);
        x.row(2, 3, 60);
        due("another one in its place does not", x.count(10), 1);
        folds(x, 6, 7);
        x.fold(0);
        due("a refused MOVE does not", x.count(6), 2);
        x.undo();
        due("one that is taken back does not", x.count(6), 1);
    }

    private static void countNone() {
        said(53, "NONE for others (0 without a LINEN).");
        for (int what : new int[] {-1, 11, 12, LOW, HIGH}) {
            due("count(" + what + ")", told(ALL).count(what), NONE);
        }
        for (SheetByTwo x : bare()) {
            for (int what = 0; what <= 9; what++) {
                due("count(" + what + ") without LINEN", x.count(what), 0);
            }
            due("SLOTS without LINEN", x.count(10), 3);
        }
    }

    private static void image() {
        said(54, "IMAGE k (0 .. 2) keeps the LINEN, the STATE and what was done: 0.");
        for (int k = 0; k < 3; k++) {
            SheetByTwo x = told(ALL);
            folds(x, 7, 3);
            calls(x, 1);
            long[] before = seen(x);
            due("image(" + k + ")", x.image(k), 0);
            stays("behind image(" + k + ")", x, before);
            x.anew();
            folds(x, 6);
            due("image(" + (k + 1) % 3 + ") of another", x.image((k + 1) % 3), 0);
            tell(x, "linen long 1 wide 2 thick 3 room 4 arms 5;press 6;pair 7 learns 8;pile 9;call her stay his top;");
            due("back(" + k + ")", x.back(k), 0);
            stays("behind back(" + k + ")", x, before);
        }
        SheetByTwo x = told(sheet(6, 6, 6) + "wish long 6 wide 6 back right;");
        x.image(0);
        tell(x, sheet(6, 6, 6) + "wish long 6 wide 6 front left;");
        x.back(0);
        due("the wish's FACE and HEM", x.fewest(), 2);
        folds(x, 8, 6);
        due("back and right", x.fewest(), 0);
        x = told(ALL);
        folds(x, 6);
        x.image(0);
        folds(x, 7, 8);
        due("in place of another", x.image(0), 0);
        x.anew();
        x.back(0);
        due("the later one", x.count(6), 3);
        for (int i = 0; i < 57; i++) {
            x.fold(i % 2 + 6);
        }
        x.image(1);
        x.anew();
        x.back(1);
        due("sixty", x.count(6), 60);
        due("the last of them", x.led(59), 6);
        due("no more", x.fold(6), -5);
        due("all are taken back", x.anew(), 60);
    }

    private static void imageCodes() {
        said(54, "-2: no such k.");
        SheetByTwo x = told(ALL);
        folds(x, 0);
        for (int k : new int[] {-1, 3, 4, LOW, HIGH}) {
            due("image(" + k + ")", x.image(k), -2);
        }
        for (int k = 0; k < 3; k++) {
            due("back(" + k + ") of nothing kept", x.back(k), -6);
        }
        due("image(2)", x.image(2), 0);
        due("image(3)", x.image(3), -2);
        due("back(2)", x.back(2), 0);
        for (SheetByTwo bare : bare()) {
            due("image(0) without LINEN", bare.image(0), 0);
            due("image(3) without LINEN", bare.image(3), -2);
            tell(bare, ALL);
            due("back(0) to none", bare.back(0), 0);
            due("there is none", bare.state(0), -100);
            due("count(8)", bare.count(8), 0);
        }
    }

    private static void back() {
        said(55, "These are as IMAGE k has them: 0.");
        SheetByTwo x = told(ALL);
        folds(x, 7, 3);
        x.image(0);
        for (int times = 0; times < 3; times++) {
            folds(x, 7, 6);
            x.undo();
            due("back(0)", x.back(0), 0);
            due("what was done", x.count(6), 2);
            due("HEM", x.state(2), 1);
            due("undo()", x.undo(), 1);
            due("LONG", x.state(0), 6);
            if (times == 1) {
                tell(x, "linen long 1 wide 2 thick 3 room 4 arms 5;");
            }
        }
        x = told(ALL);
        x.image(1);
        tell(x, BASE + "press 0;");
        fill(x, 1, 0, 6, 6);
        x.feed(0, 0, 0, 0, 0);
        x.back(1);
        due("the FAULT is no part of it", x.fault(0), 2);
        due("SLOTS are no part of it", x.plan(1), 2);
        due("the TAPE is no part of it", x.count(9), 20);
    }

    private static void backCodes() {
        said(55, "-2: no such k; -6: it has nothing.");
        for (int k = 0; k < 3; k++) {
            SheetByTwo x = told(ALL);
            folds(x, 0);
            long[] before = seen(x);
            for (int no : new int[] {-1, 3, 4, LOW, HIGH}) {
                due("back(" + no + ")", x.back(no), -2);
            }
            for (int none = 0; none < 3; none++) {
                due("back(" + none + ") of nothing", x.back(none), -6);
            }
            stays("behind refused ones", x, before);
            x.image(k);
            for (int none = 0; none < 3; none++) {
                due("back(" + none + ")", x.back(none), none == k ? 0 : -6);
            }
        }
        due("back(0) of a new object", new SheetByTwo().back(0), -6);
    }

    /** What row a SLOT has, as numbers of 0 .. 9 above 0 tell it: each by itself in a press. */
    private static void rowIs(SheetByTwo x, String what, int slot, int... row) {
        int sum = 0;
        for (int v : row) {
            sum += v;
        }
        due(what + ": how many", x.packs(slot, 1), row.length);
        due(what + ": the sum", x.packs(slot, 0), sum);
        due(what + ": one beyond", x.write(slot, row.length, 1), -7);
    }

    private static void row() {
        said(56, "A SLOT (0 .. 3) has a row of n numbers of a WIDTH, all 0 (in place of another one): 0.");
        for (int slot = 0; slot < 4; slot++) {
            for (int width = 0; width < 4; width++) {
                SheetByTwo x = told(PRESS);
                for (int n : new int[] {60, 0, 1, 59, 60}) {
                    due("row(" + slot + ", " + width + ", " + n + ")", x.row(slot, width, n), 0);
                    rowIs(x, "all 0", slot, new int[n]);
                    for (int i = 0; i < n; i++) {
                        x.write(slot, i, 9);
                    }
                    due("all 9", x.packs(slot, 0), 9 * n);
                }
                due("the SLOTS", x.count(10), 1);
            }
        }
    }

    private static void rowCodes() {
        said(56, "-2: there is no such SLOT or WIDTH (0 .. 3), or n is above 60");
        SheetByTwo x = told(PRESS);
        for (int slot : NO_SLOT) {
            due("row(" + slot + ", 0, 1)", x.row(slot, 0, 1), -2);
            due("row(" + slot + ", 0, -1)", x.row(slot, 0, -1), -2);
        }
        for (int width : new int[] {-1, 4, 5, LOW, HIGH}) {
            due("row(0, " + width + ", 1)", x.row(0, width, 1), -2);
            due("row(0, " + width + ", -1)", x.row(0, width, -1), -2);
        }
        for (int n : new int[] {61, 62, HIGH}) {
            due("row(0, 0, " + n + ")", x.row(0, 0, n), -2);
        }
        due("nothing still", x.packs(0, 0), -6);
        due("no SLOT has a row", x.count(10), 0);
        fill(x, 0, 1, 1, 2, 3);
        x.row(0, 0, 61);
        x.row(0, 4, 1);
        x.row(0, -1, 1);
        rowIs(x, "the SLOT stays", 0, 1, 2, 3);
        fill(x, 1, 1, 0);
        due("its WIDTH stays", x.paste(0, 0, 1, 0, 1), 0);
    }

    private static void rowBelow() {
        said(56, "-3, and the SLOT stays: n is below 0.");
        for (int n : new int[] {-1, -2, -60, LOW}) {
            SheetByTwo x = told(PRESS);
            due("row(0, 0, " + n + ")", x.row(0, 0, n), -3);
            due("nothing still", x.packs(0, 0), -6);
            fill(x, 3, 2, 4, 5, 6);
            for (int width = 0; width < 4; width++) {
                due("row(3, " + width + ", " + n + ")", x.row(3, width, n), -3);
            }
            rowIs(x, "it stays", 3, 4, 5, 6);
            fill(x, 1, 2, 0);
            due("its WIDTH stays", x.paste(3, 2, 1, 0, 1), 0);
            rowIs(x, "what is pasted", 1, 6);
        }
    }

    private static void write() {
        said(57, "Number i of the SLOT's row is v, cut to its WIDTH: 0.");
        int[] bits = {8, 16, 32, 64};
        for (int width = 0; width < 4; width++) {
            SheetByTwo x = told(PRESS);
            x.row(0, width, 60);
            due("the first", x.write(0, 0, 100), 0);
            due("the last", x.write(0, 59, 27), 0);
            due("both", x.packs(0, 0), 127);
            due("another in its place", x.write(0, 59, 1), 0);
            due("both", x.packs(0, 0), 101);
            x.row(0, width, 1);
            long half = 1L << bits[width] - 1;
            due("the highest", x.write(0, 0, half - 1), 0);
            due("it is not below 0", x.packs(0, 1) == -2 ? 1 : 0, 0);
            due("one more", x.write(0, 0, half), 0);
            due("it is below 0", x.packs(0, 1), -2);
            due("the lowest", x.write(0, 0, -half), 0);
            due("it is below 0", x.packs(0, 1), -2);
            due("one less", x.write(0, 0, -half - 1), 0);
            due("it is not below 0", x.packs(0, 1) == -2 ? 1 : 0, 0);
            due("all bits", x.write(0, 0, -1), 0);
            due("it is below 0", x.packs(0, 1), -2);
            if (width < 3) {
                due("wrapped round", x.write(0, 0, 2 * half + 5), 0);
                due("as 5", x.packs(0, 0), 5);
                due("wrapped round from below", x.write(0, 0, -2 * half + 6), 0);
                due("as 6", x.packs(0, 0), 6);
                due("far above", x.write(0, 0, Long.MIN_VALUE + 7), 0);
                due("as 7", x.packs(0, 0), 7);
            } else {
                due("far below", x.write(0, 0, Long.MIN_VALUE + 7), 0);
                due("it is below 0", x.packs(0, 0), -2);
                due("2^40 and 7", x.write(0, 0, (1L << 40) + 7), 0);
                due("it is not cut", x.packs(0, 0), 0);
            }
        }
    }

    private static void writeCodes() {
        said(57, "-2: there is no such SLOT; -6: it has nothing; -7: there is no such number.");
        SheetByTwo x = told(PRESS);
        for (int slot : NO_SLOT) {
            due("write(" + slot + ", 0, 1)", x.write(slot, 0, 1), -2);
            due("write(" + slot + ", -1, 1)", x.write(slot, -1, 1), -2);
        }
        for (int slot = 0; slot < 4; slot++) {
            due("write(" + slot + ", 0, 1) of nothing", x.write(slot, 0, 1), -6);
            due("write(" + slot + ", -1, 1) of nothing", x.write(slot, -1, 1), -6);
        }
        fill(x, 1, 0, 2, 3);
        for (int i : new int[] {-1, 2, 3, 59, 60, 61, LOW, HIGH}) {
            due("write(1, " + i + ", 9)", x.write(1, i, 9), -7);
        }
        rowIs(x, "the row stays", 1, 2, 3);
        x.row(2, 3, 60);
        for (int i : new int[] {-1, 60, 61, LOW, HIGH}) {
            due("write(2, " + i + ", 9)", x.write(2, i, 9), -7);
        }
        due("write(2, 59, 9)", x.write(2, 59, 9), 0);
        x.row(3, 0, 0);
        due("a row of none", x.write(3, 0, 9), -7);
        due("the other SLOTS", x.write(0, 0, 9), -6);
    }

    /** Which numbers, 1 .. 9, a row has and in which order, as thicknesses behind one another in rows of one. */
    private static void numbersAre(SheetByTwo x, String what, int slot, int width, int... row) {
        rowIs(x, what, slot, row);
        for (int i = 0; i < row.length; i++) {
            x.row(0, width, 1);
            due(what + ": paste of number " + i, x.paste(slot, i, 0, 0, 1), 0);
            due(what + ": number " + i, x.packs(0, 0), row[i]);
        }
    }

    private static void paste() {
        said(58, "So many numbers of a SLOT's row, from one on, are put to another one's (or its own), from one on, as they were: 0.");
        for (int width = 0; width < 4; width++) {
            SheetByTwo x = told(PRESS);
            fill(x, 1, width, 1, 2, 3, 4, 5);
            fill(x, 2, width, 9, 9, 9, 9, 9);
            due("two to the front", x.paste(1, 3, 2, 0, 2), 0);
            numbersAre(x, "two to the front", 2, width, 4, 5, 9, 9, 9);
            due("two to the end", x.paste(1, 0, 2, 3, 2), 0);
            numbersAre(x, "two to the end", 2, width, 4, 5, 9, 1, 2);
            due("all", x.paste(1, 0, 2, 0, 5), 0);
            numbersAre(x, "all", 2, width, 1, 2, 3, 4, 5);
            numbersAre(x, "the first stays", 1, width, 1, 2, 3, 4, 5);
            due("to its own, behind", x.paste(1, 0, 1, 1, 4), 0);
            numbersAre(x, "to its own, behind", 1, width, 1, 1, 2, 3, 4);
            due("to its own, ahead", x.paste(2, 1, 2, 0, 4), 0);
            numbersAre(x, "to its own, ahead", 2, width, 2, 3, 4, 5, 5);
            due("to its own, in place", x.paste(2, 1, 2, 1, 4), 0);
            numbersAre(x, "to its own, in place", 2, width, 2, 3, 4, 5, 5);
            due("none", x.paste(1, 0, 2, 0, 0), 0);
            due("none at the ends", x.paste(1, 5, 2, 5, 0), 0);
            numbersAre(x, "none", 2, width, 2, 3, 4, 5, 5);
        }
        SheetByTwo x = told(PRESS);
        fill(x, 1, 0, sixty(3));
        fill(x, 3, 0, sixty(4));
        due("sixty", x.paste(1, 0, 3, 0, 60), 0);
        due("sixty of 3", x.packs(3, 0), 180);
        fill(x, 1, 0);
        fill(x, 2, 0);
        due("none of none", x.paste(1, 0, 2, 0, 0), 0);
        fill(x, 0, 3, Long.MIN_VALUE);
        fill(x, 1, 3, 0);
        x.paste(0, 0, 1, 0, 1);
        due("a number below 0", x.packs(1, 0), -2);
    }

    private static void pasteCodes() {
        said(58, "-2: there is no such SLOT");
        SheetByTwo x = told(PRESS);
        fill(x, 0, 0, 1);
        for (int no : NO_SLOT) {
            due("paste(" + no + ", 0, 0, 0, 1)", x.paste(no, 0, 0, 0, 1), -2);
            due("paste(0, 0, " + no + ", 0, 1)", x.paste(0, 0, no, 0, 1), -2);
            due("paste(" + no + ", 0, " + no + ", 0, 1)", x.paste(no, 0, no, 0, 1), -2);
            due("paste(1, 0, " + no + ", 0, 1), nothing there", x.paste(1, 0, no, 0, 1), -2);
            due("paste(" + no + ", 9, 0, 9, -1)", x.paste(no, 9, 0, 9, -1), -2);
        }
        rowIs(x, "the row stays", 0, 1);
    }

    private static void pasteNothing() {
        said(58, "-6: one has nothing");
        for (int slot = 0; slot < 4; slot++) {
            for (int to = 0; to < 4; to++) {
                SheetByTwo x = told(PRESS);
                due("both", x.paste(slot, 0, to, 0, 0), -6);
                x.row(slot, 1, 2);
                due("the second", x.paste(slot, 0, to, 0, 0), slot == to ? 0 : -6);
                due("the first", x.paste(to, 0, slot, 0, 0), slot == to ? 0 : -6);
                due("the first, beyond", x.paste(to, 9, slot, 9, -1), slot == to ? -7 : -6);
                x.row(to, 1, 2);
                due("neither", x.paste(slot, 0, to, 0, 0), 0);
            }
        }
    }

    private static void pasteWidths() {
        said(58, "-8: they are not of one WIDTH");
        for (int width = 0; width < 4; width++) {
            for (int other = 0; other < 4; other++) {
                SheetByTwo x = told(PRESS);
                fill(x, 1, width, 7, 8);
                fill(x, 2, other, 5, 6);
                boolean one = width == other;
                due("WIDTHS " + width + ", " + other, x.paste(1, 0, 2, 0, 1), one ? 0 : -8);
                rowIs(x, "WIDTHS " + width + ", " + other, 2, one ? 7 : 5, 6);
                due("none of them", x.paste(1, 0, 2, 0, 0), one ? 0 : -8);
                due("beyond", x.paste(1, 1, 2, 1, 2), one ? -7 : -8);
                due("below 0", x.paste(1, -1, 2, 0, 1), one ? -7 : -8);
            }
        }
    }

    private static void pasteBeyond() {
        said(58, "-7, and nothing happens: some are beyond their rows, or a place or n is below 0.");
        int[][] refused = {{-1, 0, 1}, {0, -1, 1}, {0, 0, -1}, {-1, 0, 0}, {0, -1, 0}, {LOW, 0, 1}, {0, LOW, 1}, {0, 0, LOW},
            {3, 0, 1}, {2, 0, 2}, {1, 0, 3}, {0, 0, 4}, {0, 2, 1}, {0, 1, 2}, {0, 0, 3}, {HIGH, 0, 1}, {0, HIGH, 1}, {0, 0, HIGH},
            {1, 1, HIGH}, {HIGH, HIGH, HIGH}, {HIGH, 0, HIGH}, {2, 1, -1}, {LOW, LOW, LOW}, {-1, -1, 2}, {3, 2, 1}};
        for (int[] r : refused) {
            SheetByTwo x = told(PRESS);
            fill(x, 1, 0, 1, 2, 3);
            fill(x, 2, 0, 8, 9);
            String call = "paste(1, " + r[0] + ", 2, " + r[1] + ", " + r[2] + ")";
            due(call, x.paste(1, r[0], 2, r[1], r[2]), -7);
            numbersAre(x, call + ", nothing happens", 2, 0, 8, 9);
            numbersAre(x, call + ", nothing happens", 1, 0, 1, 2, 3);
        }
        int[][] done = {{0, 0, 2}, {1, 0, 2}, {2, 1, 1}, {2, 0, 1}, {3, 2, 0}, {0, 0, 0}};
        for (int[] r : done) {
            SheetByTwo x = told(PRESS);
            fill(x, 1, 0, 1, 2, 3);
            fill(x, 2, 0, 8, 9);
            due("paste(1, " + r[0] + ", 2, " + r[1] + ", " + r[2] + ")", x.paste(1, r[0], 2, r[1], r[2]), 0);
        }
        SheetByTwo x = told(PRESS);
        fill(x, 1, 3, 1, 2, 3);
        due("its own, beyond", x.paste(1, 0, 1, 1, 3), -7);
        due("its own, beyond", x.paste(1, 1, 1, 0, 3), -7);
        numbersAre(x, "its own", 1, 3, 1, 2, 3);
    }
}
