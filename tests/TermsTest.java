import java.util.function.LongUnaryOperator;

/** Each sentence of 'Terms' that names a boundary has a method of its own, in the document's order. */
public final class TermsTest {
    private static final int NONE = ImageTexts.NONE;
    private static final long BIG = 1000000;
    private static final String SIXTY = "F6*A10C1*D10*" + "X0Y0D3*".repeat(60);
    private static final String RING = "B*X0Y0D2*X9Y0D1*X0Y9D1*Z*";
    /** Commands of every letter, each of which may stand where it does. */
    private static final String[] ALL_COMMANDS = {"F6*", "M0:C1,5,0,-7:R0,12,4,3,0*", "A10C35*", "A11R4,2*", "A12M0*",
        "D10*", "X-5Y6D3*", "X10Y0D1*", "X0Y0D2*", "N*", "P*", "S2,10,0,-9*", "Tabcdefgh*", "T*", "B*", "X0Y0D2*",
        "X9Y0D1*", "X0Y9D1*", "Z*", "E*"};
    /** Texts with a WHOLE at #, where 1 is right. */
    private static final String[] WHOLES = {"!F#*", "F6*M0*!M#*", "F6*!M0:C#,1,0,0*", "F6*!M0:R#,1,1,0,0*",
        "F6*M0*M1*!A10M#*", "F6*!S#,1,0,0*", "F6*!S1,#,0,0*"};
    private static final String[] LENGTHS = {"F6*!A10C#*", "F6*!A10R#,5*", "F6*!A10R5,#*", "F6*!M0:C1,#,0,0*",
        "F6*!M0:R1,#,5,0,0*", "F6*!M0:R1,5,#,0,0*", "F6*!M0:C1,5,0,0:C0,#,0,0*"};
    private static final String[] NUMBERS = {"F6*!X#Y0D2*", "F6*!X0Y#D2*", "F6*A10C1*D10*!X#Y0D1*",
        "F6*A10C1*D10*!X0Y#D3*", "F6*!M0:C1,1,#,0*", "F6*!M0:C1,1,0,#*", "F6*!M0:R1,1,1,#,0*", "F6*!M0:R1,1,1,0,#*",
        "F6*!S1,1,#,0*", "F6*!S1,1,0,#*"};

    public static void main(String[] args) {
        numbersOfTexts();
        numbersOfCalls();
        aperturesAre10To29();
        rectangles();
        macrosAre0To4();
        upToFourPrimitives();
        theLastPrimitiveThatHasIt();
        lengthsOfTexts();
        lengthsOfCalls();
        atMost60Objects();
        notFartherThanTheRadius();
        threeTo16Corners();
        insideOfTheRing();
        andItsBorder();
        columnsAndRows();
        theLastObjectThatHasIt();
        lineFeeds();
        oneToSevenDigits();
        withOrWithoutMinus();
        firstCommand();
        formats();
        Check.close("TermsTest");
    }

    private static void wrong(String marked) {
        Check.wrong(marked);
    }

    /** The text that is marked is right. */
    private static void right(String marked) {
        Check.due("whether read() takes " + marked, true, Check.read(marked.replace("!", "")) >= 0);
    }

    private static void in(ImageTexts x, boolean want, long px, long py) {
        Check.due("in(" + px + ", " + py + ")", want, x.in(px, py));
    }

    /** "NUMBERS are -1,000,000 .. 1,000,000" */
    private static void numbersOfTexts() {
        for (String text : NUMBERS) {
            for (String v : new String[] {"1000000", "-1000000", "999999", "-999999", "0", "-0", "-1"}) {
                right(text.replace("#", v));
            }
            for (String v : new String[] {"1000001", "-1000001", "9999999", "-9999999"}) {
                wrong(text.replace("#", v));
            }
            String scaled = text.replace("F6", "F0");
            right(scaled.replace("#", "1"));
            right(scaled.replace("#", "-1"));
            wrong(scaled.replace("#", "2"));
            wrong(scaled.replace("#", "-2"));
        }
        wrong("F6*B*!X1000001Y0D2*");
        wrong("F6*B*X0Y0D2*!X0Y-1000001D1*");
        ImageTexts x = Check.image("F6*B*X-1000000Y1000000D2*X1000000Y-1000000D1*X0Y0D1*Z*");
        Check.due("object(0, 3)", -BIG, x.object(0, 3));
        Check.due("object(0, 4)", BIG, x.object(0, 4));
    }

    private static void numbersOfCalls() {
        ImageTexts x = new ImageTexts();
        x.aperture(0, 1, 0);
        x.macro(NONE, 0, 0);
        numberOfCall("flash, x", v -> Check.number(x.flash(10, v, 0, true)));
        numberOfCall("flash, y", v -> Check.number(x.flash(10, 0, v, true)));
        numberOfCall("line, x", v -> Check.number(x.line(10, v, 0, 0, 0)));
        numberOfCall("line, y", v -> Check.number(x.line(10, 0, v, 0, 0)));
        numberOfCall("line, x2", v -> Check.number(x.line(10, 0, 0, v, 0)));
        numberOfCall("line, y2", v -> Check.number(x.line(10, 0, 0, 0, v)));
        numberOfCall("macro, x", v -> x.macro(0, 4, v));
        numberOfCall("macro, y", v -> x.macro(0, 5, v));
        numberOfCall("repeat, dx", v -> x.repeat(1, 1, v, 0));
        numberOfCall("repeat, dy", v -> x.repeat(1, 1, 0, v));
        x.region(true);
        numberOfCall("corner, x", v -> Check.number(x.corner(v, 0)));
        numberOfCall("corner, y", v -> Check.number(x.corner(0, v)));
    }

    private static void numberOfCall(String call, LongUnaryOperator made) {
        for (long v : new long[] {-BIG, 0, BIG}) {
            Check.due(call + " " + v, 1, made.applyAsLong(v) >= 0 ? 1 : 0);
        }
        for (long v : new long[] {-BIG - 1, BIG + 1, Long.MIN_VALUE, Long.MAX_VALUE, 1L << 32, -(1L << 32)}) {
            Check.throwsArgument(call + " " + v, () -> made.applyAsLong(v));
        }
    }

    /** "APERTURES 10 .. 29" */
    private static void aperturesAre10To29() {
        StringBuilder all = new StringBuilder("F6*");
        for (int number = 29; number >= 10; number--) {
            all.append('A').append(number).append("C1*");
            right("F6*A" + number + "C1*D" + number + "*");
        }
        for (int number : new int[] {0, 1, 9, 30, 31, 110, 9999999}) {
            wrong("F6*!A" + number + "C1*");
            wrong("F6*!A" + number + "R1,1*");
            wrong("F6*M0*!A" + number + "M0*");
            wrong(all + "!D" + number + "*");
        }
        ImageTexts x = Check.image(all.toString());
        for (int number = 10; number < 30; number++) {
            Check.due("flash(" + number + ")", true, x.flash(number, 0, 0, true));
        }
        for (int number : new int[] {NONE, 0, 9, 30, Integer.MIN_VALUE, Integer.MAX_VALUE}) {
            Check.throwsOutOfBounds("flash(" + number + ")", () -> Check.number(x.flash(number, 0, 0, true)));
            Check.throwsOutOfBounds("line(" + number + ")", () -> Check.number(x.line(number, 0, 0, 0, 0)));
        }
    }

    /** "a place belongs to it when twice what it is off along x is not above the width, likewise along y" */
    private static void rectangles() {
        long[] sizes = {1, 2, 3, 4, 5, 999999, BIG};
        for (long wide : sizes) {
            for (long high : sizes) {
                ImageTexts x = new ImageTexts();
                x.aperture(1, wide, high);
                x.flash(10, 7, -8, true);
                ImageTexts part = new ImageTexts();
                part.macro(NONE, 0, 0);
                part.macro(0, 0, 1);
                part.macro(0, 2, wide);
                part.macro(0, 3, high);
                part.macro(0, 4, 4);
                part.macro(0, 5, -6);
                part.aperture(2, 0, 0);
                part.flash(10, 3, -2, true);
                rectangle(x, wide / 2, high / 2);
                rectangle(part, wide / 2, high / 2);
            }
        }
    }

    private static void rectangle(ImageTexts x, long halfWide, long halfHigh) {
        for (int sign = -1; sign <= 1; sign += 2) {
            in(x, true, 7 + sign * halfWide, -8 + halfHigh);
            in(x, true, 7 + sign * halfWide, -8 - halfHigh);
            in(x, false, 7 + sign * (halfWide + 1), -8);
            in(x, false, 7, -8 + sign * (halfHigh + 1));
            in(x, false, 7 + sign * (halfWide + 1), -8 + sign * (halfHigh + 1));
        }
    }

    /** "a MACRO, 0 .. 4" */
    private static void macrosAre0To4() {
        right("F6*M0*M1*M2*M3*M4*");
        wrong("F6*M0*M1*M2*M3*M4*!M5*");
        wrong("F6*M0*M1*M2*M3*M4*!M5:C1,1,0,0*");
        wrong("F6*M0*M1*M2*M3*M4*!M0*");
        ImageTexts x = new ImageTexts();
        for (int number = 0; number < 5; number++) {
            Check.due("macro(NONE, 0, 0)", number, x.macro(NONE, 0, 0));
        }
        Check.due("macro(NONE, 0, 0)", NONE, x.macro(NONE, 0, 0));
        Check.due("aperture(2, 4, 0)", 10, x.aperture(2, 4, 0));
        Check.throwsArgument("aperture(2, 5, 0)", () -> x.aperture(2, 5, 0));
    }

    /** "up to 4 primitives, a CIRCLE or RECTANGLE each, ON or not" */
    private static void upToFourPrimitives() {
        String text = "F6*M0";
        right(text + "*");
        for (int count = 1; count <= 4; count++) {
            text += count % 2 == 0 ? ":C0,1,0,0" : ":R1,1,1,0,0";
            right(text + "*");
            wrong(text + "!;*");
        }
        wrong(text + "!:C1,1,0,0*");
        wrong(text + "!:");
        wrong("F6*M0:!A1,1,0,0*");
        wrong("F6*M0:!*");
        for (String on : new String[] {"2", "10", "9999999"}) {
            wrong("F6*!M0:C" + on + ",1,0,0*");
            wrong("F6*!M0:R" + on + ",1,1,0,0*");
            wrong("F6*!M0:C1,1,0,0:C1,1,0,0:C1,1,0,0:C" + on + ",1,0,0*");
        }
        ImageTexts x = new ImageTexts();
        x.macro(NONE, 0, 0);
        Check.due("macro(3, 1, 1)", 4, x.macro(3, 1, 1));
        Check.throwsOutOfBounds("macro(4, 1, 1)", () -> x.macro(4, 1, 1));
        Check.throwsOutOfBounds("macro(-2, 1, 1)", () -> x.macro(-2, 1, 1));
    }

    /** "a place belongs to it when the last primitive that has it is ON" */
    private static void theLastPrimitiveThatHasIt() {
        for (int bits = 0; bits < 16; bits++) {
            StringBuilder text = new StringBuilder("F6*M0");
            for (int k = 0; k < 4; k++) {
                text.append(":C").append(bits >> k & 1).append(',').append(40 - 10 * k).append(",0,0");
            }
            ImageTexts x = Check.image(text + "*A10M0*D10*X0Y0D3*");
            for (int k = 0; k < 4; k++) {
                boolean on = (bits >> k & 1) == 1;
                in(x, on, 40 - 10 * k, 0);
                in(x, on, 0, -31 + 10 * k);
            }
            in(x, false, 41, 0);
        }
        ImageTexts none = Check.image("F6*A10C9*M0*A11M0*D11*X0Y0D3*");
        in(none, false, 0, 0);
        ImageTexts below = Check.image("F6*A10C9*M0:C0,9,0,0*A11M0*D10*X0Y0D3*N*D11*X0Y0D3*");
        in(below, true, 0, 0);
    }

    /** "Radius, width, height are 1 .. 1,000,000" */
    private static void lengthsOfTexts() {
        for (String text : LENGTHS) {
            right(text.replace("#", "1"));
            right(text.replace("#", "1000000"));
            wrong(text.replace("#", "0"));
            wrong(text.replace("#", "1000001"));
            wrong(text.replace("#", "9999999"));
            wrong(text.replace("!", "").replace("#", "!-1"));
            String scaled = text.replace("F6", "F1");
            right(scaled.replace("#", "10"));
            wrong(scaled.replace("#", "11"));
            wrong(scaled.replace("#", "0"));
        }
    }

    private static void lengthsOfCalls() {
        ImageTexts x = new ImageTexts();
        x.macro(NONE, 0, 0);
        lengthOfCall("aperture(0, a)", v -> x.aperture(0, v, 0));
        lengthOfCall("aperture(1, a)", v -> x.aperture(1, v, 1));
        lengthOfCall("aperture(1, 1, b)", v -> x.aperture(1, 1, v));
        lengthOfCall("macro(0, 2)", v -> x.macro(0, 2, v));
        lengthOfCall("macro(0, 3)", v -> x.macro(0, 3, v));
    }

    private static void lengthOfCall(String call, LongUnaryOperator made) {
        Check.due(call + " 1", true, made.applyAsLong(1) > 0);
        Check.due(call + " BIG", true, made.applyAsLong(BIG) > 0);
        for (long v : new long[] {0, -1, -BIG, BIG + 1, Long.MIN_VALUE, Long.MAX_VALUE, (1L << 32) + 1}) {
            Check.throwsArgument(call + " " + v, () -> made.applyAsLong(v));
        }
    }

    /** "OBJECTS, at most 60" */
    private static void atMost60Objects() {
        String fiftyNine = SIXTY.substring(0, SIXTY.length() - 7);
        Check.right(59, fiftyNine);
        Check.right(60, SIXTY);
        Check.right(60, SIXTY + "E*");
        Check.right(60, fiftyNine + "X0Y0D1*");
        Check.right(60, fiftyNine + RING);
        Check.right(60, SIXTY + "X0Y0D2*N*S1,1,0,0*Ta*D10*");
        ImageTexts x = Check.image(SIXTY);
        Check.due("flash, the 61st", false, x.flash(10, 0, 0, true));
        Check.due("line, the 61st", false, x.line(10, 0, 0, 0, 0));
        Check.due("region(true), the 61st", false, x.region(true));
        Check.due("object(59, 0)", 0, x.object(59, 0));
        Check.throwsOutOfBounds("object(60, 0)", () -> x.object(60, 0));
    }

    /** "all that is not farther from it than the radius" */
    private static void notFartherThanTheRadius() {
        ImageTexts x = Check.image("F6*A10C5*D10*X-10Y3D2*X10Y3D1*");
        for (long px = -16; px <= 16; px++) {
            for (long py = -4; py <= 10; py++) {
                long off = Math.max(0, Math.abs(px) - 10);
                in(x, off * off + (py - 3) * (py - 3) <= 25, px, py);
            }
        }
        ImageTexts steep = Check.image("F6*A10C1*D10*X0Y1000000D1*");
        in(steep, true, 1, 500000);
        in(steep, false, 2, 500000);
        in(steep, true, 0, 1000001);
        in(steep, false, 1, 1000001);
        in(steep, true, 0, -1);
        in(steep, false, 0, -2);
        // 1414213 behind the root of 2 is below a million, 1414214 is above it
        ImageTexts slope = Check.image("F6*A10C1000000*D10*X-1000000Y-1000000D2*X1000000Y1000000D1*");
        in(slope, true, 707106, -707107);
        in(slope, false, 707107, -707107);
        in(slope, true, -707106, 707107);
        in(slope, false, -707107, 707107);
    }

    /** "a REGION of 3 to 16 corners" */
    private static void threeTo16Corners() {
        String text = "F6*B*";
        for (int count = 0; count <= 16; count++) {
            if (count < 3) {
                wrong(text + "!Z*");
            } else {
                ImageTexts x = Check.image(text + "Z*");
                Check.due("object(0, 9)", count, x.object(0, 9));
            }
            wrong(text + "!");
            if (count == 16) {
                wrong(text + "!X1Y1D1*");
            }
            text += count == 0 ? "X1Y1D2*" : "X" + count + "Y" + count + "D1*";
        }
        for (int count = 0; count <= 17; count++) {
            ImageTexts x = new ImageTexts();
            x.region(true);
            for (int k = 0; k < count; k++) {
                Check.due("corner " + k, k < 16, x.corner(k, k * k));
            }
            Check.due("region(false) of " + count + " corners", count >= 3, x.region(false));
            if (count >= 3) {
                Check.due("object(0, 9)", Math.min(count, 16), x.object(0, 9));
            }
        }
    }

    /** "all that lies inside of its ring, from which a way off crosses it an odd number of times" */
    private static void insideOfTheRing() {
        // a comb: ways off to either side meet corners and edges that lie along them
        ImageTexts comb = Check.image("F6*B*X0Y0D2*X12Y0D1*X12Y6D1*X9Y6D1*X9Y3D1*X6Y3D1*X6Y6D1*X3Y6D1*X3Y3D1*X0Y3D1*Z*");
        in(comb, true, 1, 1);
        in(comb, false, 1, 4);
        in(comb, true, 4, 5);
        in(comb, false, 7, 5);
        in(comb, true, 10, 5);
        in(comb, false, -1, 3);
        in(comb, false, 13, 3);
        in(comb, true, 11, 3);
        in(comb, false, 1, 6);
        in(comb, false, 7, 6);
        in(comb, false, 13, 0);
        // a star of one stroke: its middle is crossed twice
        ImageTexts star = Check.image("F6*B*X0Y100D2*X59Y-81D1*X-95Y31D1*X95Y31D1*X-59Y-81D1*Z*");
        in(star, false, 0, 0);
        in(star, true, 0, 80);
        in(star, true, -80, 28);
        in(star, false, 0, -60);
        // the same ring the other way round, and begun at another corner
        ImageTexts back = Check.image("F6*B*X95Y31D2*X-95Y31D1*X59Y-81D1*X0Y100D1*X-59Y-81D1*Z*");
        for (long px = -100; px <= 100; px += 3) {
            for (long py = -100; py <= 100; py += 7) {
                in(back, star.in(px, py), px, py);
            }
        }
    }

    /** "and its border" */
    private static void andItsBorder() {
        ImageTexts x = Check.image("F6*B*X0Y0D2*X8Y4D1*X8Y12D1*X0Y12D1*X-4Y6D1*Z*");
        long[][] border = {{0, 0}, {2, 1}, {4, 2}, {6, 3}, {8, 4}, {8, 7}, {8, 12}, {5, 12}, {0, 12}, {-2, 9}, {-4, 6},
            {-2, 3}};
        for (long[] place : border) {
            in(x, true, place[0], place[1]);
        }
        long[][] beside = {{0, -1}, {3, 1}, {2, 0}, {9, 4}, {9, 7}, {9, 12}, {8, 13}, {5, 13}, {-1, 12}, {-3, 9},
            {-5, 6}, {-3, 3}, {10, 5}, {-2, -1}, {8, 3}};
        for (long[] place : beside) {
            in(x, false, place[0], place[1]);
        }
    }

    /** "repeated in columns and rows (1 .. 10 each), by so much along x and y" */
    private static void columnsAndRows() {
        for (String text : new String[] {"F6*!S#,1,0,0*", "F6*!S1,#,0,0*"}) {
            right(text.replace("#", "1"));
            right(text.replace("#", "10"));
            wrong(text.replace("#", "0"));
            wrong(text.replace("#", "11"));
            wrong(text.replace("#", "9999999"));
            wrong(text.replace("!", "").replace("#", "!-1"));
            // columns and rows are no lengths, F0 leaves them alone
            right(text.replace("F6", "F0").replace("#", "10"));
            wrong(text.replace("F6", "F0").replace("#", "11"));
        }
        ImageTexts x = Check.image("F6*A10C1*D10*S10,10,5,-5*X0Y0D3*");
        for (int column = -1; column <= 10; column++) {
            for (int row = -1; row <= 10; row++) {
                in(x, column >= 0 && column < 10 && row >= 0 && row < 10, column * 5, row * -5);
            }
        }
        ImageTexts lines = Check.image("F6*A10C1*D10*S2,3,10,20*X4Y0D1*" + RING);
        Check.due("columns of a line", 2, lines.object(0, 7));
        Check.due("rows of a region", 3, lines.object(1, 8));
        in(lines, true, 15, 40);
        in(lines, true, 13, 46);
        in(lines, false, 20, 40);
        in(lines, false, 0, 60);
    }

    /** "There is COPPER at a place when the last OBJECT that has it is DARK" */
    private static void theLastObjectThatHasIt() {
        in(new ImageTexts(), false, 0, 0);
        for (int bits = 0; bits < 8; bits++) {
            ImageTexts x = new ImageTexts();
            for (int k = 0; k < 3; k++) {
                x.aperture(0, 30 - 10 * k, 0);
                x.flash(10 + k, 0, 0, (bits >> k & 1) == 1);
            }
            for (int k = 0; k < 3; k++) {
                in(x, (bits >> k & 1) == 1, 0, 30 - 10 * k);
            }
            in(x, false, 0, 31);
        }
        // a copy of a CLEAR one that is not its first takes copper away, too
        ImageTexts copies = Check.image("F6*A10C20*A11C1*D10*X0Y0D3*N*S2,1,9,0*D11*X0Y0D3*");
        in(copies, false, 9, 0);
        in(copies, true, 5, 0);
    }

    /** "with line feeds ahead of, between and behind them": there alone, each of them a HABIT */
    private static void lineFeeds() {
        String all = String.join("", ALL_COMMANDS);
        int objects = Check.read(all);
        Check.due("read() of every command", 3, objects);
        int place = 0;
        for (String command : ALL_COMMANDS) {
            ImageTexts x = Check.image(all.substring(0, place) + "\n\n" + all.substring(place));
            Check.due("odd(0) ahead of " + command, 2, x.odd(0));
            for (int k = 1; k < command.length(); k++) {
                wrong(all.substring(0, place + k) + "!\n" + all.substring(place + k));
            }
            place += command.length();
        }
        Check.due("odd(0) behind all", 1, Check.image(all + "\n").odd(0));
        Check.right(3, "\n" + String.join("\n", ALL_COMMANDS) + "\n");
    }

    /** "A WHOLE is one to seven digits" */
    private static void oneToSevenDigits() {
        for (String[] texts : new String[][] {WHOLES, LENGTHS, NUMBERS}) {
            for (String text : texts) {
                right(text.replace("#", "1"));
                right(text.replace("#", "0000001"));
                String marked = text.replace("!", "");
                wrong(marked.replace("#", "!"));
                wrong(marked.replace("#", "0000001!0"));
                wrong(marked.replace("#", "0000000!1"));
                wrong(marked.replace("#", "1! "));
                wrong(marked.replace("#", "1!."));
                wrong(marked.replace("#", "!a"));
                wrong(marked.replace("#", "!/"));
                wrong(marked.replace("#", "!;"));
            }
        }
        wrong("F6*D0000010!0*");
        wrong("F6*!D0000010*");
        right("F6*A0000010C1*D0000010*");
    }

    /** "a NUMBER that with or without - ahead" */
    private static void withOrWithoutMinus() {
        for (String text : NUMBERS) {
            right(text.replace("#", "-1"));
            right(text.replace("#", "-0000001"));
            String marked = text.replace("!", "");
            wrong(marked.replace("#", "-!"));
            wrong(marked.replace("#", "-!-1"));
            wrong(marked.replace("#", "1!-"));
            wrong(marked.replace("#", "!+1"));
            wrong(marked.replace("#", "-0000001!0"));
        }
        for (String text : WHOLES) {
            wrong(text.replace("!", "").replace("#", "!-1"));
        }
        ImageTexts x = Check.image("F6*A10C1*D10*X-7Y7D3*X7Y-7D3*");
        Check.due("object(0, 3)", -7, x.object(0, 3));
        Check.due("object(0, 4)", 7, x.object(0, 4));
        Check.due("object(1, 4)", -7, x.object(1, 4));
    }

    /** "The first COMMAND is F", "also a second F" */
    private static void firstCommand() {
        wrong("!");
        wrong("\n!");
        for (char c = ' '; c <= '~'; c++) {
            if (c != 'F' && c != '!') {
                wrong("!" + c + "6*");
                wrong("\n\n!" + c);
            }
        }
        wrong("F6*!F6*");
        wrong("F6*!F");
        wrong("F6*\n!F7*");
        wrong("F6*B*!F6*");
        wrong("F6*E*!F6*");
    }

    /** "F and a WHOLE n, 0 .. 6: all NUMBERS of places, lengths, ways behind it are multiplied by ten 6 - n times" */
    private static void formats() {
        wrong("!F7*");
        wrong("!F10*");
        wrong("!F9999999*");
        wrong("F7!");
        long scale = 1;
        for (int n = 6; n >= 0; n--) {
            ImageTexts x = Check.image("F" + n + "*M0:C1,1,-1,0:R1,1,1,0,1*M1*A10C1*A11R1,1*A12M0*D12*S2,3,1,-1*X1Y-1D3*"
                    + "X0Y0D2*D10*X-1Y1D1*B*X1Y1D2*X0Y1D1*X1Y0D1*Z*");
            String want = "F6*M0:C1,1,-1,0:R1,1,1,0,1*M1*A10C1*A11R1,1*A12M0*S2,3,1,-1*D12*X1Y-1D3*"
                    + "D10*X0Y0D2*X-1Y1D1*B*X1Y1D2*X0Y1D1*X1Y0D1*Z*E*";
            Check.due("what is written of F" + n, scaledText(want, scale), Check.written(x));
            scale *= 10;
        }
    }

    /** Multiplies the lengths, places and ways of a text by hand. */
    private static String scaledText(String text, long scale) {
        return text.replace("C1,1,-1,0", "C1," + scale + ",-" + scale + ",0")
                .replace("R1,1,1,0,1", "R1," + scale + "," + scale + ",0," + scale)
                .replace("A10C1", "A10C" + scale)
                .replace("A11R1,1", "A11R" + scale + "," + scale)
                .replace("S2,3,1,-1", "S2,3," + scale + ",-" + scale)
                .replace("X1Y", "X" + scale + "Y").replace("X-1Y", "X-" + scale + "Y")
                .replace("Y1D", "Y" + scale + "D").replace("Y-1D", "Y-" + scale + "D");
    }
}
