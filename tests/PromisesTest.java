/** Each boundary sentence of promises 1 to 17 has a method of its own, in the document's order. */
public final class PromisesTest {
    private static final int NONE = ImageTexts.NONE;
    private static final long BIG = 1000000;
    private static final int MAX = Integer.MAX_VALUE;
    private static final int MIN = Integer.MIN_VALUE;
    private static final String IMAGE = "\nF06*M0:C1,2,0,0*A10C3*A11R4,2*A12M0*D10*Tab*X5Y5D3*X9Y5D1*";

    public static void main(String[] args) {
        noTextNoAperturesNoObjects();
        unitsThatAreNoCharacters();
        threeThousandCharacters();
        howManyObjectsThereAre();
        theTextIsGone();
        anOpenRegionToo();
        repeatStays();
        thenAllStays();
        noSuchObjectOrWhat();
        valuesOfOthers();
        copperFarOff();
        noSuchHabit();
        lastReadWell();
        nextApertureThatIsNotTold();
        noneWhenThereAre20();
        apertureNotAsSaid();
        macroNoneWhenThereAre5();
        thoseAheadOfIt();
        wrongMacroCalls();
        flashFalseWhenThereAre60();
        wrongFlashes();
        lineLikewise();
        noCircle();
        regionOpened();
        regionClosed();
        cornerFalseWhenItHas16();
        wrongCorners();
        writeBehindTheText();
        writeAsFarAsAnotherHolds();
        writeLinesFromThePlaceAtHand();
        sameOfNone();
        sameInAllBut();
        attributeBehindIt();
        repeatWhetherItWasOtherwise();
        wrongRepeats();
        clearIsAsAtFirst();
        Check.close("PromisesTest");
    }

    private static void emptied(ImageTexts x) {
        Check.due("read()", -1, x.read());
        Check.due("in(0, 0)", false, x.in(0, 0));
        Check.due("region(false)", false, x.region(false));
        Check.due("what is written", "F6*E*", Check.written(x));
        for (int k = 0; k < 3; k++) {
            Check.due("odd(" + k + ")", 0, x.odd(k));
        }
        for (int number = 9; number <= 30; number++) {
            int n = number;
            Check.throwsOutOfBounds("flash(" + n + ")", () -> Check.number(x.flash(n, 0, 0, true)));
        }
        Check.throwsOutOfBounds("object(0, 0)", () -> x.object(0, 0));
        Check.throwsOutOfBounds("attribute(0, 0)", () -> x.attribute(0, 0));
        Check.throwsOutOfBounds("same(0)", () -> Check.number(x.same(0)));
        Check.throwsState("macro(0, 0, 0)", () -> x.macro(0, 0, 0));
        Check.throwsState("corner(0, 0)", () -> Check.number(x.corner(0, 0)));
        Check.throwsArgument("aperture(2, 0, 0)", () -> x.aperture(2, 0, 0));
        Check.due("repeat(1, 1, 0, 0)", 0, x.repeat(1, 1, 0, 0));
        Check.due("macro(NONE, 0, 0)", 0, x.macro(NONE, 0, 0));
        Check.due("aperture(0, 1, 1)", 10, x.aperture(0, 1, 1));
        Check.due("region(true)", true, x.region(true));
    }

    /** 1: "No text, no apertures, no objects." */
    private static void noTextNoAperturesNoObjects() {
        emptied(new ImageTexts());
    }

    /** 2: "false, when it is not 32 .. 126 or 10" */
    private static void unitsThatAreNoCharacters() {
        ImageTexts x = new ImageTexts();
        for (int u = -200; u < 300; u++) {
            Check.due("unit(" + u + ")", u == 10 || (u >= 32 && u <= 126), x.unit(u));
        }
        for (int u : new int[] {MIN, MAX, 65536 + 70, -65536 + 70, (1 << 24) + 10}) {
            Check.due("unit(" + u + ")", false, x.unit(u));
        }
        ImageTexts y = new ImageTexts();
        Check.feed(y, "F");
        y.unit(9);
        y.unit(65536 + 70);
        Check.feed(y, "6");
        y.unit(127);
        y.unit(-1);
        Check.feed(y, "*");
        Check.due("read(): what was refused is not in the text", 0, y.read());
    }

    /** 2: "or there are 3,000" (behind 512 calls answers are free, yet the sentence names this boundary) */
    private static void threeThousandCharacters() {
        ImageTexts x = new ImageTexts();
        Check.feed(x, "\n".repeat(2997) + "F6*");
        Check.due("unit(69), the 3001st", false, x.unit(69));
        Check.due("unit(10), the 3001st", false, x.unit(10));
        Check.due("read() of 3000", 0, x.read());
        Check.due("odd(0)", 2997, x.odd(0));
        Check.due("unit(70), the text is gone", true, x.unit(70));
        ImageTexts wrong = new ImageTexts();
        Check.feed(wrong, "\n".repeat(2998) + "F6");
        Check.due("unit(42), the 3001st", false, wrong.unit(42));
        Check.due("read(): the length is WRONG", -3001, wrong.read());
        wrong.clear();
        Check.due("unit(42)", true, wrong.unit(42));
    }

    /** 3: "how many objects there are; or -1 minus the place that is WRONG" */
    private static void howManyObjectsThereAre() {
        for (int count : new int[] {0, 1, 2, 59, 60}) {
            Check.right(count, "F6*A10C1*D10*" + "X0Y0D3*".repeat(count));
        }
        ImageTexts x = Check.image("F6*A10C1*D10*X0Y0D3*X0Y0D3*");
        Check.feed(x, "F6*A10C1*D10*X0Y0D3*");
        Check.due("read(), those of the former image are gone", 1, x.read());
        x.flash(10, 0, 0, true);
        Check.feed(x, "F6*");
        Check.due("read()", 0, x.read());
        Check.due("read() of nothing", -1, x.read());
        Check.feed(x, "G");
        Check.due("read() of G", -1, x.read());
        x.clear();
        Check.feed(x, "F");
        Check.due("read() of F", -2, x.read());
    }

    /** 3: "the text is gone" */
    private static void theTextIsGone() {
        ImageTexts x = Check.image("F6*A10C1*D10*X0Y0D3*");
        Check.feed(x, "E*");
        Check.due("read() of E*", -1, x.read());
        Check.throwsOutOfBounds("object(1, 0)", () -> x.object(1, 0));
    }

    /** 3: "(an open REGION of calls, too; ..." */
    private static void anOpenRegionToo() {
        ImageTexts x = new ImageTexts();
        x.region(true);
        x.corner(0, 0);
        x.corner(1, 0);
        x.corner(0, 1);
        Check.feed(x, "F6*A10C1*E*");
        Check.due("read()", 0, x.read());
        Check.due("region(false)", false, x.region(false));
        Check.throwsState("corner(0, 0)", () -> Check.number(x.corner(0, 0)));
        Check.due("flash(10, 0, 0, true)", true, x.flash(10, 0, 0, true));
        Check.due("region(true)", true, x.region(true));
        Check.due("region(false), its corners are gone", false, x.region(false));
    }

    /** 3: "... repeat() stays)" */
    private static void repeatStays() {
        ImageTexts x = new ImageTexts();
        x.repeat(2, 3, 4, 5);
        Check.feed(x, "F6*A10C1*D10*S7,8,9,9*X0Y0D3*E*");
        Check.due("read()", 1, x.read());
        Check.due("object(0, 7)", 7, x.object(0, 7));
        x.flash(10, 0, 0, true);
        Check.due("object(1, 7)", 2, x.object(1, 7));
        Check.due("object(1, 8)", 3, x.object(1, 8));
        Check.due("repeat(2, 3, 4, 5)", 0, x.repeat(2, 3, 4, 5));
    }

    /** 3: "then all stays" */
    private static void thenAllStays() {
        String[] wrongOnes = {"", "G", "F6*M0*M1*A10C9*A29C9*D29*X1Y1D3*X2Y2D3*Q", "F7*", "F6*B*X0Y0D2*X9Y0D1*X9Y9D1*",
            "F06*\n\nE"};
        for (String text : wrongOnes) {
            ImageTexts x = Check.image(IMAGE);
            x.repeat(2, 3, 4, 5);
            x.region(true);
            x.corner(1, 1);
            x.corner(2, 2);
            Check.feed(x, text);
            Check.due("whether read() refuses " + text, true, x.read() < 0);
            Check.due("what is written", "F6*M0:C1,2,0,0*A10C3*A11R4,2*A12M0*Tab*D10*X5Y5D3*X9Y5D1*E*", Check.written(x));
            Check.due("odd(0)", 1, x.odd(0));
            Check.due("odd(1)", 1, x.odd(1));
            Check.due("odd(2)", 1, x.odd(2));
            Check.due("in(5, 5)", true, x.in(5, 5));
            Check.due("object(1, 5)", 9, x.object(1, 5));
            Check.due("attribute(0, 1)", 'b', x.attribute(0, 1));
            Check.due("repeat(2, 3, 4, 5)", 0, x.repeat(2, 3, 4, 5));
            Check.due("macro(1, 2, 1)", 2, x.macro(1, 2, 1));
            Check.due("corner(1, 2)", true, x.corner(1, 2));
            Check.due("region(false)", true, x.region(false));
            Check.due("aperture(0, 1, 0)", 13, x.aperture(0, 1, 0));
        }
        ImageTexts x = Check.image(IMAGE);
        Check.feed(x, "F6*A10C1*D10*X0Y0D3*E");
        Check.due("read() of what lacks a *", -22, x.read());
        Check.feed(x, "*");
        Check.due("read(), the text had stayed", 1, x.read());
    }

    /** 4: "IndexOutOfBoundsException, when there is no such object, or what" */
    private static void noSuchObjectOrWhat() {
        ImageTexts x = Check.image(IMAGE);
        for (int what = 0; what < 10; what++) {
            int w = what;
            Check.due("whether there is object(1, " + w + ")", true, Check.answer(() -> x.object(1, w)) >= -1);
            for (int k : new int[] {-1, 2, 3, 59, 60, 61, MIN, MAX}) {
                Check.throwsOutOfBounds("object(" + k + ", " + w + ")", () -> x.object(k, w));
            }
        }
        for (int what : new int[] {-1, 10, 11, MIN, MAX}) {
            Check.throwsOutOfBounds("object(0, " + what + ")", () -> x.object(0, what));
            Check.throwsOutOfBounds("object(2, " + what + ")", () -> x.object(2, what));
        }
    }

    /** 4: "its aperture, or NONE", "of a LINE's end (5, 6; of others NONE)", "how many corners (9; 0 of others)" */
    private static void valuesOfOthers() {
        ImageTexts x = Check.image(IMAGE + "N*S4,5,0,0*B*X-7Y8D2*X1Y0D1*X0Y1D1*Z*");
        int[][] want = {{0, 1, 10, 5, 5, NONE, NONE, 1, 1, 0}, {1, 1, 10, 5, 5, 9, 5, 1, 1, 0},
            {2, 0, NONE, -7, 8, NONE, NONE, 4, 5, 3}};
        for (int k = 0; k < want.length; k++) {
            for (int what = 0; what < 10; what++) {
                Check.due("object(" + k + ", " + what + ")", want[k][what], x.object(k, what));
            }
        }
    }

    /** 5: a place of any two longs, also one that no object reaches */
    private static void copperFarOff() {
        ImageTexts x = new ImageTexts();
        x.aperture(0, BIG, 0);
        x.aperture(1, BIG, BIG);
        x.repeat(10, 10, BIG, BIG);
        x.flash(10, BIG, BIG, true);
        x.line(10, -BIG, -BIG, BIG, BIG);
        x.flash(11, 0, 0, true);
        long[] far = {MIN, MAX, Long.MIN_VALUE, Long.MAX_VALUE, 1L << 32, -(1L << 32), 1L << 33, 1L << 62, 11 * BIG + 1};
        for (long v : far) {
            Check.due("in(" + v + ", 0)", false, x.in(v, 10 * BIG));
            Check.due("in(0, " + v + ")", false, x.in(10 * BIG, v));
            Check.due("in(" + v + ", " + v + ")", false, x.in(v, v));
        }
        Check.due("in(11 * BIG, 10 * BIG)", true, x.in(11 * BIG, 10 * BIG));
    }

    /** 6: "IndexOutOfBoundsException, when there is no such habit" */
    private static void noSuchHabit() {
        for (ImageTexts x : new ImageTexts[] {new ImageTexts(), Check.image(IMAGE)}) {
            for (int k : new int[] {-1, 3, 4, MIN, MAX}) {
                Check.throwsOutOfBounds("odd(" + k + ")", () -> x.odd(k));
            }
        }
    }

    /** 6: "in the text that was last read well" */
    private static void lastReadWell() {
        ImageTexts x = Check.image("\n\nF06*");
        Check.feed(x, "F6*E*\n");
        Check.due("read()", 0, x.read());
        Check.due("odd(0)", 1, x.odd(0));
        Check.due("odd(1)", 0, x.odd(1));
        Check.due("odd(2)", 0, x.odd(2));
        Check.feed(x, "\n\n\nF0007*");
        Check.due("read()", -4, x.read());
        Check.due("odd(0) behind a wrong one", 1, x.odd(0));
        Check.due("odd(1) behind a wrong one", 0, x.odd(1));
        Check.due("odd(2) behind a wrong one", 0, x.odd(2));
    }

    /** 7: "The next aperture that is not told" */
    private static void nextApertureThatIsNotTold() {
        ImageTexts x = Check.image("F6*A10C1*A12C1*A29C1*");
        Check.due("aperture(0, 1, 0)", 11, x.aperture(0, 1, 0));
        Check.due("aperture(1, 1, 1)", 13, x.aperture(1, 1, 1));
        Check.throwsArgument("aperture(1, 0, 1)", () -> x.aperture(1, 0, 1));
        Check.due("aperture(0, 1, 0), none was told by what was refused", 14, x.aperture(0, 1, 0));
    }

    /** 7: "NONE when there are 20" */
    private static void noneWhenThereAre20() {
        ImageTexts x = new ImageTexts();
        for (int number = 10; number < 30; number++) {
            Check.due("aperture(0, 1, 0)", number, x.aperture(0, number, 0));
        }
        Check.due("aperture(0, 1, 0), the 21st", NONE, x.aperture(0, 1, 0));
        Check.due("aperture(1, 1, 1), the 21st", NONE, x.aperture(1, 1, 1));
        Check.throwsArgument("aperture(0, 0, 0), the 21st", () -> x.aperture(0, 0, 0));
        Check.throwsArgument("aperture(2, 0, 0), the 21st", () -> x.aperture(2, 0, 0));
        x.flash(29, 0, 0, true);
        Check.due("in(0, 29)", true, x.in(0, 29));
        Check.due("in(0, 30)", false, x.in(0, 30));
    }

    /** 7: "IllegalArgumentException, when something is not as said, or there is no such macro" */
    private static void apertureNotAsSaid() {
        ImageTexts x = new ImageTexts();
        for (int kind : new int[] {-1, 3, 4, MIN, MAX}) {
            Check.throwsArgument("aperture(" + kind + ", 1, 1)", () -> x.aperture(kind, 1, 1));
        }
        for (long macro : new long[] {-1, 0, 1, 5, Long.MIN_VALUE, Long.MAX_VALUE, 1L << 32}) {
            Check.throwsArgument("aperture(2, " + macro + ", 0)", () -> x.aperture(2, macro, 0));
        }
        x.macro(NONE, 0, 0);
        x.macro(NONE, 0, 0);
        for (long macro : new long[] {-1, 2, 1L << 32, (1L << 32) + 1}) {
            Check.throwsArgument("aperture(2, " + macro + ", 0)", () -> x.aperture(2, macro, 0));
        }
        Check.due("aperture(2, 1, 0)", 10, x.aperture(2, 1, 0));
    }

    /** 8: "NONE when there are 5" */
    private static void macroNoneWhenThereAre5() {
        ImageTexts x = Check.image("F6*M0*M1*M2*M3*");
        Check.due("macro(NONE, 0, 0)", 4, x.macro(NONE, 0, 0));
        Check.due("macro(0, 2, 7)", 1, x.macro(0, 2, 7));
        Check.due("macro(NONE, 0, 0)", NONE, x.macro(NONE, 0, 0));
        Check.due("macro(NONE, MIN, MIN)", NONE, x.macro(NONE, MIN, Long.MIN_VALUE));
        Check.due("what is written, the latest has stayed", "F6*M0*M1*M2*M3*M4:C1,7,0,0*E*", Check.written(x));
    }

    /** 8: "one that was not there is a CIRCLE, ON, of radius 1 ..., and so are those ahead of it" */
    private static void thoseAheadOfIt() {
        for (int primitive = 0; primitive < 4; primitive++) {
            ImageTexts x = new ImageTexts();
            x.macro(NONE, 0, 0);
            Check.due("macro(" + primitive + ", 2, 5)", primitive + 1, x.macro(primitive, 2, 5));
            String others = ":C1,1,0,0".repeat(primitive);
            Check.due("what is written", "F6*M0" + others + ":C1,5,0,0*E*", Check.written(x));
            Check.due("macro(0, 5, -3)", primitive + 1, x.macro(0, 5, -3));
            x.macro(primitive, 0, 1);
            String text = Check.written(x);
            Check.due("its height is 1: " + text, true, text.contains("R1,5,1,0,"));
        }
    }

    /** 8: its exceptions */
    private static void wrongMacroCalls() {
        ImageTexts x = new ImageTexts();
        for (int primitive : new int[] {-2, 4, 5, MIN, MAX}) {
            Check.throwsOutOfBounds("macro(" + primitive + ", 0, 0)", () -> x.macro(primitive, 0, 0));
        }
        for (int k : new int[] {-1, 6, 7, MIN, MAX}) {
            Check.throwsOutOfBounds("macro(0, " + k + ", 0)", () -> x.macro(0, k, 0));
        }
        Check.throwsState("macro(0, 0, 0) of none", () -> x.macro(0, 0, 0));
        Check.throwsState("macro(3, 5, 0) of none", () -> x.macro(3, 5, 0));
        x.macro(NONE, 0, 0);
        long[][] wrong = {{0, -1}, {0, 2}, {1, -1}, {1, 2}, {2, 0}, {3, 0}, {2, BIG + 1}, {3, BIG + 1}, {4, -BIG - 1},
            {4, BIG + 1}, {5, -BIG - 1}, {5, BIG + 1}};
        for (long[] w : wrong) {
            Check.throwsArgument("macro(3, " + w[0] + ", " + w[1] + ")", () -> x.macro(3, (int) w[0], w[1]));
        }
        Check.due("what is written, nothing was made", "F6*M0:C1,1,0,0*E*", Check.written(x));
    }

    /** 9: "true; false when there are 60 objects" */
    private static void flashFalseWhenThereAre60() {
        ImageTexts x = new ImageTexts();
        x.aperture(0, 1, 0);
        for (int k = 0; k < 63; k++) {
            Check.due("flash, " + k + " are there", k < 60, x.flash(10, 5 * k, 0, true));
        }
        Check.due("in(295, 0)", true, x.in(295, 0));
        Check.due("in(300, 0)", false, x.in(300, 0));
        Check.throwsOutOfBounds("flash(11), the 61st", () -> Check.number(x.flash(11, 0, 0, true)));
        Check.throwsArgument("flash at no place, the 61st", () -> Check.number(x.flash(10, BIG + 1, 0, true)));
    }

    /** 9: its exceptions */
    private static void wrongFlashes() {
        ImageTexts x = Check.image("F6*A10C1*A29C1*");
        for (int number : new int[] {NONE, 0, 9, 11, 28, 30, MIN, MAX}) {
            Check.throwsOutOfBounds("flash(" + number + ")", () -> Check.number(x.flash(number, 0, 0, true)));
        }
        x.region(true);
        Check.throwsState("flash(10) in a region", () -> Check.number(x.flash(10, 0, 0, true)));
        Check.throwsState("flash(29) in a region", () -> Check.number(x.flash(29, 0, 0, false)));
        x.corner(0, 0);
        x.corner(1, 0);
        x.corner(0, 1);
        x.region(false);
        Check.due("flash(29) behind it", true, x.flash(29, BIG, -BIG, false));
        Check.due("object(1, 1)", 0, x.object(1, 1));
    }

    /** 10: "A new LINE, DARK, likewise" */
    private static void lineLikewise() {
        ImageTexts x = new ImageTexts();
        x.aperture(0, 1, 0);
        x.flash(10, 0, 0, false);
        for (int k = 1; k < 63; k++) {
            Check.due("line, " + k + " are there", k < 60, x.line(10, k, 0, k, 1));
        }
        Check.due("object(1, 1)", 1, x.object(1, 1));
        Check.throwsOutOfBounds("line(11), the 61st", () -> Check.number(x.line(11, 0, 0, 0, 0)));
        Check.throwsArgument("line to no place, the 61st", () -> Check.number(x.line(10, 0, 0, 0, -BIG - 1)));
        ImageTexts y = Check.image(IMAGE);
        y.region(true);
        Check.throwsState("line in a region", () -> Check.number(y.line(10, 0, 0, 1, 1)));
        for (int number : new int[] {NONE, 0, 9, 13, 30, MIN, MAX}) {
            Check.throwsOutOfBounds("line(" + number + ")", () -> Check.number(y.line(number, 0, 0, 1, 1)));
        }
    }

    /** 10: "IllegalArgumentException, when the aperture is no CIRCLE, too" */
    private static void noCircle() {
        ImageTexts x = Check.image(IMAGE);
        Check.throwsArgument("line of a rectangle", () -> Check.number(x.line(11, 0, 0, 1, 1)));
        Check.throwsArgument("line of a macro, though of one circle", () -> Check.number(x.line(12, 0, 0, 1, 1)));
        Check.throwsOutOfBounds("object(2, 0), none was made", () -> x.object(2, 0));
        Check.due("line of a circle", true, x.line(10, 0, 0, 1, 1));
    }

    /** 11: "A REGION is opened: true; false when one is open, or there are 60 objects" */
    private static void regionOpened() {
        ImageTexts x = new ImageTexts();
        Check.due("region(true)", true, x.region(true));
        x.corner(0, 0);
        Check.due("region(true), one is open", false, x.region(true));
        x.corner(9, 0);
        x.corner(0, 9);
        Check.due("region(false), the corners have stayed", true, x.region(false));
        Check.due("object(0, 9)", 3, x.object(0, 9));
        x.aperture(0, 1, 0);
        for (int k = 1; k < 60; k++) {
            x.flash(10, 0, 0, true);
        }
        Check.due("region(true), there are 60", false, x.region(true));
        Check.throwsState("corner(0, 0), none is open", () -> Check.number(x.corner(0, 0)));
        Check.due("flash, none is open", false, x.flash(10, 0, 0, true));
    }

    /** 11: "false when none is open, or it has less than three corners (it stays open)" */
    private static void regionClosed() {
        ImageTexts x = new ImageTexts();
        Check.due("region(false), none is open", false, x.region(false));
        Check.throwsState("corner(0, 0), none is open", () -> Check.number(x.corner(0, 0)));
        x.region(true);
        for (int count = 0; count < 3; count++) {
            Check.due("region(false) of " + count, false, x.region(false));
            Check.due("region(true), it is open", false, x.region(true));
            Check.due("corner(" + count + ", 0)", true, x.corner(count * 5, count * count));
        }
        Check.due("region(false) of 3", true, x.region(false));
        Check.due("region(false), none is open", false, x.region(false));
        Check.due("object(0, 1)", 1, x.object(0, 1));
        Check.throwsOutOfBounds("object(1, 0)", () -> x.object(1, 0));
    }

    /** 12: "true; false when it has 16" */
    private static void cornerFalseWhenItHas16() {
        ImageTexts x = new ImageTexts();
        x.region(true);
        for (int k = 0; k < 20; k++) {
            Check.due("corner, it has " + k, k < 16, x.corner(k < 16 ? k : 500, k % 2));
        }
        Check.due("region(false)", true, x.region(false));
        Check.due("object(0, 9)", 16, x.object(0, 9));
        Check.due("in(500, 0), it was no corner", false, x.in(500, 0));
        x.region(true);
        Check.due("corner of another region", true, x.corner(0, 0));
    }

    /** 12: its exceptions */
    private static void wrongCorners() {
        ImageTexts x = new ImageTexts();
        Check.throwsState("corner(0, 0)", () -> Check.number(x.corner(0, 0)));
        Check.throwsState("corner(BIG + 1, 0)", () -> Check.number(x.corner(BIG + 1, 0)));
        x.region(true);
        for (long v : new long[] {BIG + 1, -BIG - 1, Long.MIN_VALUE, Long.MAX_VALUE, 1L << 32}) {
            Check.throwsArgument("corner(" + v + ", 0)", () -> Check.number(x.corner(v, 0)));
            Check.throwsArgument("corner(0, " + v + ")", () -> Check.number(x.corner(0, v)));
        }
        x.corner(BIG, BIG);
        x.corner(-BIG, BIG);
        Check.due("region(false), what was refused is no corner", false, x.region(false));
        x.corner(BIG, -BIG);
        Check.due("region(false)", true, x.region(false));
    }

    /** 13: "from 0 on; NONE behind it", "IndexOutOfBoundsException, when i is below 0" */
    private static void writeBehindTheText() {
        for (String text : new String[] {"F6*E*", "F6*A10C3*D10*X5Y5D3*E*"}) {
            ImageTexts x = Check.image(text);
            for (int i = 0; i < text.length(); i++) {
                Check.due("write(" + i + ")", text.charAt(i), x.write(i));
            }
            for (int i : new int[] {text.length(), text.length() + 1, 3000, 100000, MAX}) {
                Check.due("write(" + i + ")", NONE, x.write(i));
            }
            for (int i : new int[] {-1, -2, MIN}) {
                Check.throwsOutOfBounds("write(" + i + ")", () -> x.write(i));
            }
            Check.due("write(0) again", 'F', x.write(0));
        }
    }

    private static void written(String want, String text) {
        Check.due("what is written of " + text.replace('\n', '|'), want, Check.written(Check.image(text)));
    }

    /** 13: "each with P or N, S, T and D ahead, as far as what holds is another one" */
    private static void writeAsFarAsAnotherHolds() {
        String head = "F6*A10C1*A11R1,1*";
        written(head + "D10*X0Y0D3*X0Y0D3*E*", head + "P*S1,1,0,0*T*D10*X0Y0D3*P*S1,1,0,0*T*D10*X0Y0D3*");
        written(head + "N*S1,1,0,1*Ta*D11*X0Y0D3*X0Y0D3*E*", head + "D11*Ta*S1,1,0,1*N*X0Y0D3*D10*D11*Tb*Ta*X0Y0D3*");
        written(head + "N*D10*X0Y0D3*P*X0Y0D3*E*", head + "N*D10*X0Y0D3*P*X0Y0D3*");
        written(head + "S2,1,0,0*D10*X0Y0D3*S1,2,0,0*X0Y0D3*S1,1,5,0*X0Y0D3*S1,1,0,5*X0Y0D3*S1,1,0,0*X0Y0D3*E*",
                head + "D10*S2,1,0,0*X0Y0D3*S1,2,0,0*X0Y0D3*S1,1,5,0*X0Y0D3*S1,1,0,5*X0Y0D3*S1,1,0,0*X0Y0D3*");
        written(head + "Tab*D10*X0Y0D3*Ta*X0Y0D3*T*X0Y0D3*E*", head + "Tab*D10*X0Y0D3*Ta*X0Y0D3*T*X0Y0D3*");
        // what follows the last object holds for none
        written(head + "D10*X0Y0D3*E*", head + "D10*X0Y0D3*N*S2,2,2,2*Tz*D11*X7Y7D2*");
        // a region needs no D, and another one behind it holds none
        written(head + "B*X0Y0D2*X1Y0D1*X0Y1D1*Z*D11*X0Y0D3*B*X0Y0D2*X1Y0D1*X0Y1D1*Z*X0Y0D3*E*",
                head + "D11*B*X0Y0D2*X1Y0D1*X0Y1D1*Z*X0Y0D3*D10*B*X0Y0D2*X1Y0D1*X0Y1D1*Z*D11*X0Y0D3*");
        written("F6*M0*M1:C1,1,0,0*A10C1*A20C1*A29C1*E*", "F6*A29C1*A10C1*M0*A20C1*M1:C1,1,0,0*");
        written("F6*A10C1000000*A11R1000000,1*D10*X-1000000Y1000000D3*X0Y-7D3*E*",
                "F6*A10C1000000*A11R1000000,1*D10*X-1000000Y1000000D3*X-0Y-7D3*");
    }

    /** 13: "a LINE with X, Y, D2 when the place at hand (at first 0, 0) is not its beginning" */
    private static void writeLinesFromThePlaceAtHand() {
        ImageTexts x = new ImageTexts();
        x.aperture(0, 1, 0);
        x.line(10, 0, 0, 1, 2);
        x.line(10, 1, 2, 3, 4);
        x.line(10, 3, 5, 0, 0);
        x.flash(10, 6, 7, true);
        x.line(10, 6, 7, 8, 9);
        x.line(10, 7, 9, 0, 0);
        x.region(true);
        x.corner(0, 0);
        x.corner(1, 0);
        x.corner(0, 1);
        x.region(false);
        x.line(10, 0, 1, 0, 0);
        x.line(10, 0, 1, 0, 0);
        Check.due("what is written", "F6*A10C1*D10*X1Y2D1*X3Y4D1*X3Y5D2*X0Y0D1*X6Y7D3*X8Y9D1*X7Y9D2*X0Y0D1*"
                + "B*X0Y0D2*X1Y0D1*X0Y1D1*Z*X0Y0D1*X0Y1D2*X0Y0D1*E*", Check.written(x));
    }

    /** 14: "IndexOutOfBoundsException, when there is none such, or none at all" */
    private static void sameOfNone() {
        for (int other : new int[] {-1, 0, 1, 60, MIN, MAX}) {
            ImageTexts none = new ImageTexts();
            Check.throwsOutOfBounds("same(" + other + ") of none", () -> Check.number(none.same(other)));
        }
        ImageTexts x = Check.image(IMAGE);
        for (int other : new int[] {-1, 2, 60, MIN, MAX}) {
            Check.throwsOutOfBounds("same(" + other + ") of two", () -> Check.number(x.same(other)));
        }
        Check.due("same(0)", false, x.same(0));
        Check.due("same(1), the latest itself", true, x.same(1));
    }

    /** 14: "alike in all but their apertures' numbers (these have the same shapes)" */
    private static void sameInAllBut() {
        ImageTexts x = Check.image("F6*A10C3*A20C3*A21C4*D10*X1Y1D3*D20*X1Y1D3*");
        Check.due("same(0), another number", true, x.same(0));
        x.flash(21, 1, 1, true);
        Check.due("same(0), another shape", false, x.same(0));
        x.flash(20, 1, 1, false);
        Check.due("same(0), CLEAR", false, x.same(0));
        x.repeat(1, 1, 0, 1);
        x.flash(20, 1, 1, true);
        Check.due("same(0), another way", false, x.same(0));
        x.repeat(1, 1, 0, 0);
        x.flash(20, 1, 1, true);
        Check.due("same(0)", true, x.same(0));
        Check.due("same(4)", false, x.same(4));
    }

    /** 15: "NONE behind it", "IndexOutOfBoundsException, when there is no such object, or i is below 0" */
    private static void attributeBehindIt() {
        ImageTexts x = Check.image(IMAGE + "Tabcdefgh*X0Y0D3*T*X0Y0D3*");
        int[] lengths = {2, 2, 8, 0};
        for (int k = 0; k < lengths.length; k++) {
            for (int i = 0; i < 12; i++) {
                Check.due("attribute(" + k + ", " + i + ")", i < lengths[k] ? 'a' + i : NONE, x.attribute(k, i));
            }
            int j = k;
            Check.due("attribute(" + k + ", MAX)", NONE, x.attribute(k, MAX));
            Check.throwsOutOfBounds("attribute(" + k + ", -1)", () -> x.attribute(j, -1));
            Check.throwsOutOfBounds("attribute(" + k + ", MIN)", () -> x.attribute(j, MIN));
        }
        for (int k : new int[] {-1, 4, 60, MIN, MAX}) {
            Check.throwsOutOfBounds("attribute(" + k + ", 0)", () -> x.attribute(k, 0));
        }
        x.flash(10, 0, 0, true);
        Check.due("attribute(4, 0), of a call", NONE, x.attribute(4, 0));
    }

    /** 16: "(at first 1 by 1): whether it was otherwise, as a number: 1 or 0" */
    private static void repeatWhetherItWasOtherwise() {
        ImageTexts x = new ImageTexts();
        Check.due("repeat(1, 1, 0, 0)", 0, x.repeat(1, 1, 0, 0));
        int[][] numbers = {{1, 1, 0, 1}, {1, 1, 1, 1}, {1, 2, 1, 1}, {2, 2, 1, 1}, {10, 10, 1000000, -1000000},
            {10, 10, -1000000, 1000000}, {1, 1, 0, 0}};
        for (int[] n : numbers) {
            String call = "repeat(" + n[0] + ", " + n[1] + ", " + n[2] + ", " + n[3] + ")";
            Check.due(call, 1, x.repeat(n[0], n[1], n[2], n[3]));
            Check.due(call + " again", 0, x.repeat(n[0], n[1], n[2], n[3]));
        }
    }

    /** 16: "IllegalArgumentException, when a number is not so" */
    private static void wrongRepeats() {
        ImageTexts x = new ImageTexts();
        x.aperture(0, 1, 0);
        x.repeat(2, 3, 4, 5);
        for (int v : new int[] {0, -1, 11, MIN, MAX}) {
            Check.throwsArgument("repeat(" + v + ", 1, 0, 0)", () -> x.repeat(v, 1, 0, 0));
            Check.throwsArgument("repeat(1, " + v + ", 0, 0)", () -> x.repeat(1, v, 0, 0));
        }
        for (long v : new long[] {BIG + 1, -BIG - 1, Long.MIN_VALUE, Long.MAX_VALUE, 1L << 32}) {
            Check.throwsArgument("repeat(1, 1, " + v + ", 0)", () -> x.repeat(1, 1, v, 0));
            Check.throwsArgument("repeat(1, 1, 0, " + v + ")", () -> x.repeat(1, 1, 0, v));
        }
        x.flash(10, 0, 0, true);
        Check.due("object(0, 7), it has stayed", 2, x.object(0, 7));
        Check.due("repeat(2, 3, 4, 5)", 0, x.repeat(2, 3, 4, 5));
    }

    /** 17: "As at first." */
    private static void clearIsAsAtFirst() {
        ImageTexts x = Check.image(IMAGE);
        x.repeat(2, 3, 4, 5);
        x.region(true);
        x.corner(1, 1);
        x.corner(1, 2);
        x.corner(2, 2);
        Check.feed(x, "F6*B*X0Y0D2*");
        x.clear();
        emptied(x);
        x.clear();
        emptied(x);
        ImageTexts again = new ImageTexts();
        again.clear();
        again.clear();
        emptied(again);
    }
}
