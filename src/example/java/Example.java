/** Tells a LINEN, folds it and asks some of what can be asked; README.md has it, too. */
public final class Example {
    public static void main(String[] args) {
        SheetByTwo x = new SheetByTwo();
        show("LINES told", tell(x, "linen long 12 wide 8 thick 2 room 12 arms 6; halve takes 4;"
            + "call her top his top; call her top his bottom; call her walk his stay; slips her 10 his 20;"
            + "wish long 6 wide 4 front any; press 40; pair 10 learns 30; pair 12 learns 0; pile 5; pile 2;"));

        show("fewest MOVES to what is wished", x.fewest());
        show("the first of them", x.step(0));
        show("the second", x.step(1));
        show("there is no third", x.step(2));

        show("SECONDS of MOVE 0, TOP", x.fold(0));
        show("CALL 1 makes a TWIST more", x.call(1));
        show("MOVE 0 can't be now", x.fold(0));
        show("MOVES out of the TWIST", x.out(0));
        show("taken back, what is left", x.undo());
        show("WIDE", x.state(1));
        show("LAYERS", x.state(5));
        show("packages in the press", x.fits());

        x.image(0);
        x.row(2, 0, 2);
        x.write(2, 0, 3);
        x.write(2, 1, 8);
        show("MOVES of SLOT 2 that can be, HERS and QUARTER", x.plan(2));
        show("LONG behind them", x.after(2, 0));
        show("all taken back", x.anew());
        x.back(0);
        show("done, back at IMAGE 0", x.count(6));

        show("SECONDS till the last PILE is through", x.friday());
        show("the chance that CALL 0 is done as told, above", x.right(0, 0));
        show("below", x.right(0, 1));
        show("another LINEN has a FAULT", tell(x, "linen long 49;"));
        show("which", x.fault(0));
        show("at", x.fault(1));
    }

    /** Feeds a text of 1,000 bytes at most, twenty at a time, cuts the TAPE to its length and reads it. */
    private static int tell(SheetByTwo x, String text) {
        for (int i = 0; i < text.length(); i += 20) {
            x.feed(four(text, i), four(text, i + 4), four(text, i + 8), four(text, i + 12), four(text, i + 16));
        }
        x.end(text.length());
        return x.linen();
    }

    /** Four bytes of a text, the first one highest; blanks beyond its end. */
    private static int four(String text, int from) {
        int all = 0;
        for (int i = from; i < from + 4; i++) {
            all = all << 8 | (i < text.length() ? text.charAt(i) & 255 : ' ');
        }
        return all;
    }

    private static void show(String what, long answer) {
        System.out.println(what + ": " + answer);
    }
}
