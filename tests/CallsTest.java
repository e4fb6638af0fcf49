/** Promises 7 to 12, 16 and 17: aperture, macro, flash, line, region, corner, repeat, clear. */
public final class CallsTest {
    private static final int NONE = ImageTexts.NONE;
    private static final long BIG = 1000000;

    public static void main(String[] args) {
        apertures();
        apertureNumbers();
        macros();
        macrosAnew();
        wrongMacros();
        flashes();
        lines();
        regions();
        corners();
        sixtyObjects();
        repeats();
        wrongRepeats();
        clearing();
        Check.close("CallsTest");
    }

    private static void apertures() {
        ImageTexts x = new ImageTexts();
        Check.due("aperture(0, 1, MIN)", 10, x.aperture(0, 1, Long.MIN_VALUE));
        Check.due("aperture(0, BIG, 0)", 11, x.aperture(0, BIG, 0));
        Check.due("aperture(1, 1, BIG)", 12, x.aperture(1, 1, BIG));
        Check.due("aperture(1, BIG, 1)", 13, x.aperture(1, BIG, 1));
        long[][] wrong = {{-1, 1, 1}, {3, 1, 1}, {0, 0, 1}, {0, -1, 1}, {0, BIG + 1, 1}, {1, 0, 1}, {1, 1, 0},
            {1, BIG + 1, 1}, {1, 1, BIG + 1}, {2, 0, 0}, {2, -1, 0}, {0, (1L << 32) + 5, 1}, {0, Long.MIN_VALUE, 1},
            {1, 5, (1L << 32) + 5}, {2, 1L << 32, 0}};
        for (long[] w : wrong) {
            Check.throwsArgument("aperture(" + w[0] + ", " + w[1] + ", " + w[2] + ")",
                    () -> x.aperture((int) w[0], w[1], w[2]));
        }
        Check.due("macro(NONE, 0, 0)", 0, x.macro(NONE, 0, 0));
        Check.due("aperture(2, 0, 0)", 14, x.aperture(2, 0, 0));
        Check.throwsArgument("aperture(2, 1, 0)", () -> x.aperture(2, 1, 0));
        Check.throwsArgument("aperture(2, 1L << 32, 0)", () -> x.aperture(2, 1L << 32, 0));
    }

    private static void apertureNumbers() {
        ImageTexts x = Check.image("F6*A11C1*A29C1*A13C1*");
        Check.due("aperture(0, 1, 1)", 10, x.aperture(0, 1, 1));
        Check.due("aperture(0, 1, 1)", 12, x.aperture(0, 1, 1));
        for (int number = 14; number < 29; number++) {
            Check.due("aperture(0, 1, 1)", number, x.aperture(0, 1, 1));
        }
        Check.due("aperture(0, 1, 1), the 21st", NONE, x.aperture(0, 1, 1));
        Check.throwsArgument("aperture(0, 0, 1), the 21st", () -> x.aperture(0, 0, 1));
    }

    private static void macros() {
        ImageTexts x = new ImageTexts();
        Check.due("macro(NONE, MAX, MAX)", 0, x.macro(NONE, Integer.MAX_VALUE, Long.MAX_VALUE));
        Check.due("a new macro's text", "F6*M0:C1,1,0,0*E*", Check.written(x));
        Check.due("macro(0, 2, 7)", 1, x.macro(0, 2, 7));
        Check.due("macro(2, 0, 1)", 3, x.macro(2, 0, 1));
        Check.due("macro(1, 1, 0)", 3, x.macro(1, 1, 0));
        Check.due("macro(2, 3, 4)", 3, x.macro(2, 3, 4));
        Check.due("macro(2, 4, -BIG)", 3, x.macro(2, 4, -BIG));
        Check.due("macro(2, 5, BIG)", 3, x.macro(2, 5, BIG));
        Check.due("its text", "F6*M0:C1,7,0,0:C0,1,0,0:R1,1,4,-1000000,1000000*E*", Check.written(x));
        Check.due("macro(NONE, 0, 0)", 1, x.macro(NONE, 0, 0));
        Check.due("macro(3, 1, 0)", 4, x.macro(3, 1, 0));
        Check.due("both texts", "F6*M0:C1,7,0,0:C0,1,0,0:R1,1,4,-1000000,1000000*"
                + "M1:C1,1,0,0:C1,1,0,0:C1,1,0,0:C0,1,0,0*E*", Check.written(x));
        for (int number = 2; number < 5; number++) {
            Check.due("macro(NONE, 0, 0)", number, x.macro(NONE, 0, 0));
        }
        Check.due("macro(NONE, 0, 0), the sixth", NONE, x.macro(NONE, 0, 0));
        // an aperture is its macro, also when that is changed later
        Check.due("aperture(2, 4, 0)", 10, x.aperture(2, 4, 0));
        x.flash(10, 0, 0, true);
        Check.due("in(9, 0)", false, x.in(9, 0));
        x.macro(0, 2, 9);
        Check.due("in(9, 0) behind macro(0, 2, 9)", true, x.in(9, 0));
        ImageTexts read = Check.image("F6*M0*M1:R1,2,2,5,5*");
        Check.due("macro(1, 2, 3)", 2, read.macro(1, 2, 3));
        Check.due("its text", "F6*M0*M1:R1,2,2,5,5:C1,3,0,0*E*", Check.written(read));
    }

    private static void macrosAnew() {
        ImageTexts x = Check.image("F6*M0:R0,7,8,9,-9:R0,7,8,9,-9*M1:R0,7,8,9,-9*");
        x.clear();
        x.macro(NONE, 0, 0);
        x.macro(NONE, 0, 0);
        Check.due("macro(1, 0, 1)", 2, x.macro(1, 0, 1));
        Check.due("what is written", "F6*M0:C1,1,0,0*M1:C1,1,0,0:R1,1,1,0,0*E*", Check.written(x));
        Check.feed(x, "F6*M0:R0,7,8,9,-9:C0,7,9,9*");
        x.read();
        Check.due("macro(3, 4, 5)", 4, x.macro(3, 4, 5));
        Check.due("macro(2, 0, 1)", 4, x.macro(2, 0, 1));
        Check.due("macro(1, 0, 1)", 4, x.macro(1, 0, 1));
        Check.due("what is written", "F6*M0:R0,7,8,9,-9:R0,7,1,9,9:R1,1,1,0,0:C1,1,5,0*E*", Check.written(x));
    }

    private static void wrongMacros() {
        ImageTexts x = new ImageTexts();
        Check.throwsOutOfBounds("macro(4, 0, 0)", () -> x.macro(4, 0, 0));
        Check.throwsOutOfBounds("macro(0, 6, 0)", () -> x.macro(0, 6, 0));
        Check.throwsState("macro(0, 0, 7)", () -> x.macro(0, 0, 7));
        x.macro(NONE, 0, 0);
        Check.throwsOutOfBounds("macro(4, 0, 0)", () -> x.macro(4, 0, 0));
        Check.throwsOutOfBounds("macro(-2, 0, 0)", () -> x.macro(-2, 0, 0));
        Check.throwsOutOfBounds("macro(0, -1, 0)", () -> x.macro(0, -1, 0));
        Check.throwsOutOfBounds("macro(0, 6, 0)", () -> x.macro(0, 6, 0));
        long[][] wrong = {{0, -1}, {0, 2}, {1, -1}, {1, 2}, {2, 0}, {2, BIG + 1}, {3, 0}, {3, BIG + 1},
            {4, BIG + 1}, {4, -BIG - 1}, {5, BIG + 1}, {5, -BIG - 1}, {0, 1L << 32}, {2, (1L << 32) + 1},
            {4, Long.MIN_VALUE}};
        for (long[] w : wrong) {
            Check.throwsArgument("macro(3, " + w[0] + ", " + w[1] + ")", () -> x.macro(3, (int) w[0], w[1]));
        }
        Check.due("macro(0, 0, 0), nothing was made", 1, x.macro(0, 0, 0));
    }

    private static void flashes() {
        ImageTexts x = new ImageTexts();
        x.aperture(0, 3, 0);
        Check.due("flash(10, BIG, -BIG, true)", true, x.flash(10, BIG, -BIG, true));
        Check.due("flash(10, 0, 0, false)", true, x.flash(10, 0, 0, false));
        Check.due("object(0, 3)", BIG, x.object(0, 3));
        Check.due("object(0, 4)", -BIG, x.object(0, 4));
        Check.due("object(0, 1)", 1, x.object(0, 1));
        Check.due("object(1, 1)", 0, x.object(1, 1));
        for (int number : new int[] {9, 11, 30, NONE, 0, Integer.MAX_VALUE, Integer.MIN_VALUE}) {
            Check.throwsOutOfBounds("flash(" + number + ")", () -> Check.number(x.flash(number, 0, 0, true)));
        }
        for (long v : new long[] {BIG + 1, -BIG - 1, Long.MAX_VALUE, Long.MIN_VALUE, 1L << 32}) {
            Check.throwsArgument("flash at x " + v, () -> Check.number(x.flash(10, v, 0, true)));
            Check.throwsArgument("flash at y " + v, () -> Check.number(x.flash(10, 0, v, true)));
        }
        x.region(true);
        Check.throwsState("flash in a region", () -> Check.number(x.flash(10, BIG + 1, 0, true)));
        Check.throwsOutOfBounds("flash of none in a region", () -> Check.number(x.flash(11, 0, 0, true)));
        Check.throwsOutOfBounds("object(2, 0), none was made", () -> x.object(2, 0));
    }

    private static void lines() {
        ImageTexts x = new ImageTexts();
        x.aperture(0, 3, 0);
        x.aperture(1, 3, 3);
        x.macro(NONE, 0, 0);
        x.aperture(2, 0, 0);
        x.flash(10, 0, 0, false);
        Check.due("line(10, ..)", true, x.line(10, -BIG, BIG, BIG, -BIG));
        int[] want = {1, 1, 10, -1000000, 1000000, 1000000, -1000000, 1, 1, 0};
        for (int what = 0; what < want.length; what++) {
            Check.due("object(1, " + what + ")", want[what], x.object(1, what));
        }
        Check.throwsArgument("line of a rectangle", () -> Check.number(x.line(11, 0, 0, 1, 1)));
        Check.throwsArgument("line of a macro", () -> Check.number(x.line(12, 0, 0, 1, 1)));
        Check.throwsOutOfBounds("line(13)", () -> Check.number(x.line(13, 0, 0, 1, 1)));
        Check.throwsOutOfBounds("line(-1)", () -> Check.number(x.line(-1, 0, 0, 1, 1)));
        for (long v : new long[] {BIG + 1, -BIG - 1, Long.MAX_VALUE, Long.MIN_VALUE}) {
            Check.throwsArgument("line, x " + v, () -> Check.number(x.line(10, v, 0, 1, 1)));
            Check.throwsArgument("line, y " + v, () -> Check.number(x.line(10, 0, v, 1, 1)));
            Check.throwsArgument("line, x2 " + v, () -> Check.number(x.line(10, 0, 0, v, 1)));
            Check.throwsArgument("line, y2 " + v, () -> Check.number(x.line(10, 0, 0, 1, v)));
        }
        x.region(true);
        Check.throwsState("line in a region", () -> Check.number(x.line(11, BIG + 1, 0, 1, 1)));
        Check.throwsOutOfBounds("line of none in a region", () -> Check.number(x.line(13, 0, 0, 1, 1)));
    }

    private static void regions() {
        ImageTexts x = new ImageTexts();
        x.aperture(0, 1, 0);
        x.flash(10, 7, 7, false);
        Check.due("region(false)", false, x.region(false));
        Check.due("region(true)", true, x.region(true));
        Check.due("region(true) again", false, x.region(true));
        Check.due("region(false) of no corners", false, x.region(false));
        x.corner(1, 2);
        x.corner(9, 2);
        Check.due("region(false) of two corners", false, x.region(false));
        x.repeat(4, 5, 6, 7);
        x.corner(9, 9);
        Check.throwsOutOfBounds("object(1, 0)", () -> x.object(1, 0));
        Check.due("region(false)", true, x.region(false));
        int[] want = {2, 1, -1, 1, 2, -1, -1, 4, 5, 3};
        for (int what = 0; what < want.length; what++) {
            Check.due("object(1, " + what + ")", want[what], x.object(1, what));
        }
        Check.due("region(false), closed", false, x.region(false));
        Check.due("region(true), a second", true, x.region(true));
        Check.due("region(false), its corners are new", false, x.region(false));
    }

    private static void corners() {
        ImageTexts x = new ImageTexts();
        Check.throwsState("corner(0, 0)", () -> Check.number(x.corner(0, 0)));
        Check.throwsState("corner(MAX, 0)", () -> Check.number(x.corner(Long.MAX_VALUE, 0)));
        x.region(true);
        for (long v : new long[] {BIG + 1, -BIG - 1, Long.MAX_VALUE, Long.MIN_VALUE}) {
            Check.throwsArgument("corner, x " + v, () -> Check.number(x.corner(v, 0)));
            Check.throwsArgument("corner, y " + v, () -> Check.number(x.corner(0, v)));
        }
        for (int k = 0; k < 16; k++) {
            Check.due("corner " + k, true, x.corner(k % 2 == 0 ? BIG : -BIG, k));
        }
        Check.due("corner 16", false, x.corner(0, 0));
        Check.throwsArgument("corner 16 at no place", () -> Check.number(x.corner(0, BIG + 1)));
        Check.due("region(false)", true, x.region(false));
        Check.due("object(0, 9)", 16, x.object(0, 9));
        Check.throwsState("corner(0, 0) behind", () -> Check.number(x.corner(0, 0)));
    }

    private static void sixtyObjects() {
        ImageTexts x = new ImageTexts();
        x.aperture(0, 1, 0);
        for (int k = 0; k < 59; k++) {
            Check.due("flash " + k, true, x.flash(10, k, 0, true));
        }
        x.region(true);
        x.corner(0, 0);
        x.corner(1, 0);
        x.corner(0, 1);
        Check.due("region(false), the 60th", true, x.region(false));
        Check.due("flash, the 61st", false, x.flash(10, 0, 0, true));
        Check.due("line, the 61st", false, x.line(10, 0, 0, 0, 0));
        Check.due("region(true), the 61st", false, x.region(true));
        Check.throwsState("corner(0, 0)", () -> Check.number(x.corner(0, 0)));
        Check.throwsOutOfBounds("flash(9), the 61st", () -> Check.number(x.flash(9, 0, 0, true)));
        Check.throwsArgument("flash at no place, the 61st", () -> Check.number(x.flash(10, 0, BIG + 1, true)));
        Check.throwsArgument("line at no place, the 61st", () -> Check.number(x.line(10, 0, BIG + 1, 0, 0)));
        Check.due("object(59, 0)", 2, x.object(59, 0));
        Check.throwsOutOfBounds("object(60, 0)", () -> x.object(60, 0));
    }

    private static void repeats() {
        ImageTexts x = new ImageTexts();
        x.aperture(0, 1, 0);
        Check.due("repeat(1, 1, 0, 0)", 0, x.repeat(1, 1, 0, 0));
        x.flash(10, 0, 0, true);
        Check.due("repeat(10, 10, BIG, -BIG)", 1, x.repeat(10, 10, BIG, -BIG));
        Check.due("repeat(10, 10, BIG, -BIG)", 0, x.repeat(10, 10, BIG, -BIG));
        x.line(10, 0, 0, 1, 1);
        Check.due("repeat(10, 10, BIG, 0)", 1, x.repeat(10, 10, BIG, 0));
        Check.due("repeat(10, 10, 0, 0)", 1, x.repeat(10, 10, 0, 0));
        Check.due("repeat(10, 9, 0, 0)", 1, x.repeat(10, 9, 0, 0));
        Check.due("repeat(9, 9, 0, 0)", 1, x.repeat(9, 9, 0, 0));
        Check.due("object(0, 7)", 1, x.object(0, 7));
        Check.due("object(1, 7)", 10, x.object(1, 7));
        Check.due("object(1, 8)", 10, x.object(1, 8));
        x.flash(10, 0, 0, true);
        Check.due("object(2, 7)", 9, x.object(2, 7));
        Check.feed(x, "F6*");
        x.read();
        Check.due("repeat(9, 9, 0, 0), it stays", 0, x.repeat(9, 9, 0, 0));
    }

    private static void wrongRepeats() {
        ImageTexts x = new ImageTexts();
        x.repeat(2, 3, 4, 5);
        long[][] wrong = {{0, 1, 0, 0}, {11, 1, 0, 0}, {1, 0, 0, 0}, {1, 11, 0, 0}, {-1, 1, 0, 0},
            {1, Integer.MIN_VALUE, 0, 0}, {1, 1, BIG + 1, 0}, {1, 1, -BIG - 1, 0}, {1, 1, 0, BIG + 1},
            {1, 1, 0, -BIG - 1}, {2, 3, (1L << 32) + 4, 5}, {2, 3, 4, Long.MIN_VALUE}};
        for (long[] w : wrong) {
            Check.throwsArgument("repeat(" + w[0] + ", " + w[1] + ", " + w[2] + ", " + w[3] + ")",
                    () -> x.repeat((int) w[0], (int) w[1], w[2], w[3]));
        }
        Check.due("repeat(2, 3, 4, 5)", 0, x.repeat(2, 3, 4, 5));
    }

    private static void clearing() {
        ImageTexts x = Check.image("\nF06*M0*A10C3*D10*Tab*N*X5Y5D3*");
        x.repeat(2, 3, 4, 5);
        x.region(true);
        x.corner(1, 1);
        Check.feed(x, "F6*");
        x.clear();
        Check.due("what is written", "F6*E*", Check.written(x));
        Check.due("read()", -1, x.read());
        for (int k = 0; k < 3; k++) {
            Check.due("odd(" + k + ")", 0, x.odd(k));
        }
        Check.throwsOutOfBounds("object(0, 0)", () -> x.object(0, 0));
        Check.throwsState("corner(1, 1)", () -> Check.number(x.corner(1, 1)));
        Check.throwsState("macro(0, 0, 0)", () -> x.macro(0, 0, 0));
        Check.due("region(false)", false, x.region(false));
        Check.due("repeat(1, 1, 0, 0)", 0, x.repeat(1, 1, 0, 0));
        Check.due("aperture(0, 1, 0)", 10, x.aperture(0, 1, 0));
        Check.due("flash(10, 0, 0, true)", true, x.flash(10, 0, 0, true));
        Check.due("what is written", "F6*A10C1*D10*X0Y0D3*E*", Check.written(x));
    }
}
