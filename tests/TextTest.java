/** Promises 2, 3 and 6: unit, read with the place that is WRONG, odd. */
public final class TextTest {
    private static final String HEAD = "F6*A10C3*A11R4,2*";

    public static void main(String[] args) {
        units();
        wholeTexts();
        wrongBeginnings();
        wrongForms();
        wrongMeanings();
        wrongRegions();
        wrongEnds();
        sixtyObjects();
        numbers();
        habits();
        whatStaysAndGoes();
        nothingIsLeftOfOtherTexts();
        longestText();
        Check.close("TextTest");
    }

    private static void wrong(String marked) {
        Check.wrong(marked);
    }

    private static void right(int objects, String text) {
        Check.right(objects, text);
    }

    private static void units() {
        ImageTexts x = new ImageTexts();
        int[] refused = {-1, 0, 9, 11, 13, 31, 127, 128, 255, 256 + 70, Integer.MIN_VALUE, Integer.MAX_VALUE};
        for (int u : refused) {
            Check.due("unit(" + u + ")", false, x.unit(u));
        }
        Check.feed(x, "F6*\n");
        Check.due("unit(127)", false, x.unit(127));
        Check.feed(x, "E*");
        Check.due("read()", 0, x.read());
        ImageTexts y = new ImageTexts();
        Check.due("unit(32)", true, y.unit(32));
        Check.due("unit(126)", true, y.unit(126));
        Check.due("read()", -1, y.read());
    }

    private static void wholeTexts() {
        right(0, "F6*");
        right(0, "F0*E*");
        right(0, "\n\nF6*\n\nE*\n\n");
        right(1, HEAD + "D10*X5Y5D3*E*");
        right(1, HEAD + "D10*X5Y5D1*");
        right(0, HEAD + "X5Y5D2*");
        right(1, HEAD + "B*X0Y0D2*\nX9Y0D1*\nX9Y9D1*Z*E*");
        right(2, HEAD + "D11*P*N*T*Tabcdefgh*S10,1,-5,-0*X-0Y-1D3*X-1000000Y1000000D3*");
        right(0, "F6*M0*M1:C0,1,0,0:R1,1,1,0,0:C1,1,0,0:R0,1,1,0,0*M2:C1,1,1,1*M3*M4*A29M4*");
    }

    private static void wrongBeginnings() {
        wrong("!");
        wrong("\n\n!");
        wrong("!E*");
        wrong("!D");
        wrong("\n!M0*");
        wrong("! F6*");
        wrong("F6*!F6*");
        wrong("F6*!F");
        wrong("F6*!C");
        wrong("F6*!**");
        wrong("F6*!Y");
        wrong("F6*!a");
        wrong("F6*! ");
    }

    private static void wrongForms() {
        wrong("F!*");
        wrong("F!-6*");
        wrong("F6!E*");
        wrong("F6!\n*");
        wrong("F0000000!0*");
        wrong("F6*D!*");
        wrong("F6*D10!,*");
        wrong("F6*D99! ");
        wrong("F6*A10!X3*");
        wrong("F6*A10C!-3*");
        wrong("F6*A10C3!,4*");
        wrong("F6*A10R3!*");
        wrong("F6*A10R3,!*");
        wrong("F6*A99M7!,");
        wrong("F6*M!:");
        wrong("F6*M0:!M1,1,0,0*");
        wrong("F6*M0:C!-1,1,0,0*");
        wrong("F6*M0:C1,1,0!*");
        wrong("F6*M0:C1,1,0,0!,0*");
        wrong("F6*M0:R1,1,1,0!*");
        wrong("F6*M0:C1,1,-!-0*");
        wrong("F6*M0:C1,1,0,0:C1,1,0,0:C1,1,0,0:C1,1,0,0!:C1,1,0,0*");
        wrong("F6*M!-0*");
        wrong("F6*M0:C1,!-1,0,0*");
        wrong("F6*M0:R1,!-1,1,0,0*");
        wrong("F6*M0:R1,1,!-1,0,0*");
        wrong("F6*A!-10C1*");
        wrong("F6*A10!*");
        wrong("F6*A10R1,!-1*");
        wrong("F6*M0*A10M!-0*");
        wrong("F6*A10C1*D!-10*");
        wrong("F6*S1,!-1,0,0*");
        wrong("F6*X1Y1D!*");
        wrong("F6*X1!D3*");
        wrong("F6*X1Y!D3*");
        wrong("F6*X1Y-!*");
        wrong("F6*X1Y1!*");
        wrong("F6*X1Y1D!0*");
        wrong("F6*X1Y1D!4*");
        wrong("F6*X1Y1D2!2*");
        wrong("F6*X1234567!8Y1D2*");
        wrong("F6*B!1*");
        wrong("F6*Z!1*");
        wrong("F6*P!N*");
        wrong("F6*N!\n*");
        wrong("F6*S1,1,0!*");
        wrong("F6*S!-1,1,0,0*");
        wrong("F6*S1,1,0,0!,0*");
        wrong("F6*Ta!B*");
        wrong("F6*Tabcdefgh!i*");
        wrong("F6*T!1*");
        wrong("F6*E!E*");
    }

    private static void wrongMeanings() {
        wrong("!F7*");
        wrong("\n!F9999999*E*");
        wrong("F6*!A9C1*");
        wrong("F6*!A30C1*");
        wrong("F6*A10C1*!A10C1*");
        wrong("F6*!A10C0*");
        wrong("F6*!A10C1000001*");
        wrong("F6*!A10R0,1*");
        wrong("F6*!A10R1,0*");
        wrong("F6*!A10M0*");
        wrong("F6*M0*!A10M1*");
        wrong("F6*!M1*");
        wrong("F6*M0*!M0*");
        wrong("F6*M0*M1*M2*M3*M4*!M5*");
        wrong("F6*!M0:C2,1,0,0*");
        wrong("F6*!M0:C1,0,0,0*");
        wrong("F6*!M0:R1,1,0,0,0*");
        wrong("F6*!M0:C1,1,1000001,0*");
        wrong("F6*!M0:C1,1,0,-1000001*");
        wrong("F6*!M0:C3,1,0,0:C1,1,0,0*");
        wrong("F6*!D10*");
        wrong(HEAD + "!D9*");
        wrong(HEAD + "!D12*");
        wrong(HEAD + "!X1Y1D1*");
        wrong(HEAD + "!X1Y1D3*");
        wrong(HEAD + "D11*!X1Y1D1*");
        wrong(HEAD + "D10*!X1000001Y1D1*");
        wrong(HEAD + "!X1Y-1000001D2*");
        wrong("F6*!S0,1,0,0*");
        wrong("F6*!S11,1,0,0*");
        wrong("F6*!S1,0,0,0*");
        wrong("F6*!S1,11,0,0*");
        wrong("F6*!S1,1,1000001,0*");
        wrong("F6*!S1,1,0,-1000001*");
        wrong("F6*!Z*");
    }

    private static void wrongRegions() {
        wrong("F6*B*!B*");
        wrong("F6*B*!P*");
        wrong("F6*B*!E*");
        wrong("F6*B*!D");
        wrong("F6*B*!Z*");
        wrong("F6*B*!X0Y0D1*");
        wrong("F6*B*X0Y0D2*!X0Y0D2*");
        wrong("F6*A10C1*D10*B*X0Y0D2*!X0Y0D3*");
        wrong("F6*B*X0Y0D2*X1Y0D1*!Z*");
        wrong("F6*B*X0Y0D2*X1Y0D1*X1Y1D1*Z*!Z*");
        wrong("F6*B*X0Y0D2*X1Y0D1*X1Y1D1!");
        wrong("F6*B*X0Y0D2*X1Y0D1*X1Y1D1*!");
        wrong("F6*B*\n!");
        String fifteen = "X1Y1D1*".repeat(15);
        right(1, "F6*B*X0Y0D2*" + fifteen + "Z*");
        wrong("F6*B*X0Y0D2*" + fifteen + "!X1Y1D1*Z*");
    }

    private static void wrongEnds() {
        wrong("F!");
        wrong("F7!");
        wrong("F6!");
        wrong("F6*A99!");
        wrong("F6*M0:!");
        wrong("F6*X1Y1D!4");
        wrong("F6*X1Y1D3!");
        wrong("F6*Z!");
        wrong("F6*E!");
        wrong("F6*E*!E*");
        wrong("F6*E*\n\n!D10*");
        wrong("F6*E*!F6*");
        wrong("F6*E*!*");
    }

    private static void sixtyObjects() {
        String sixty = "F6*A10C1*D10*" + "X0Y0D3*".repeat(60);
        right(60, sixty);
        right(60, sixty + "X0Y0D2*E*");
        wrong(sixty + "!X0Y0D3*");
        wrong(sixty + "!X0Y0D1*");
        wrong(sixty + "!B*X0Y0D2*X0Y0D1*X0Y0D1*Z*");
        wrong(sixty + "B!");
    }

    private static void numbers() {
        ImageTexts x = Check.image("F4*A010C7*D10*S2,2,3,-4*X-12Y007D3*");
        Check.due("object(0, 3)", -1200, x.object(0, 3));
        Check.due("object(0, 4)", 700, x.object(0, 4));
        Check.due("object(0, 7)", 2, x.object(0, 7));
        Check.due("in(-1200 + 300 + 700, 700 - 400)", true, x.in(-200, 300));
        Check.due("in(-1200 + 300 + 701, 700 - 400)", false, x.in(-199, 300));
        right(0, "F0*A10C1*X-1Y1D2*M0:C1,1,0,-1*M1:R1,1,1,1,0*S1,1,1,-1*");
        wrong("F0*!A10C2*");
        wrong("F0*!X0Y2D2*");
        wrong("F0*!S1,1,-2,0*");
        wrong("F0*!M0:C1,1,2,0*");
        wrong("F0*!M0:R1,1,2,0,0*");
        wrong("F0*!X9999999Y0D2*");
        right(0, "F5*X0100000Y-100000D2*");
        wrong("F5*!X100001Y0D2*");
    }

    private static void habits() {
        ImageTexts x = new ImageTexts();
        for (int k = 0; k < 3; k++) {
            Check.due("odd(" + k + ")", 0, x.odd(k));
        }
        Check.throwsOutOfBounds("odd(-1)", () -> x.odd(-1));
        Check.throwsOutOfBounds("odd(3)", () -> x.odd(3));
        Check.throwsOutOfBounds("odd(MAX)", () -> x.odd(Integer.MAX_VALUE));
        Check.feed(x, "\nF06*\n\nM00:R01,02,03,-04,-0*A010M00*A11C0003*D0010*S01,02,00,-00*X-0Y0D3*X00Y-05D2*");
        Check.due("read()", 1, x.read());
        Check.due("odd(0)", 3, x.odd(0));
        Check.due("odd(1)", 16, x.odd(1));
        Check.due("odd(2)", 1, x.odd(2));
        Check.feed(x, "F06*E");
        Check.due("read()", -6, x.read());
        Check.due("odd(1) behind a wrong text", 16, x.odd(1));
        Check.feed(x, "*\n");
        Check.due("read()", 0, x.read());
        Check.due("odd(0)", 1, x.odd(0));
        Check.due("odd(1)", 1, x.odd(1));
        Check.due("odd(2)", 0, x.odd(2));
    }

    private static void nothingIsLeftOfOtherTexts() {
        ImageTexts x = Check.image("F6*A10C3*D10*N*S2,2,2,2*Tab*X5Y5D1*B*X0Y0D2*X1Y0D1*X0Y1D1*Z*X9Y9D1*");
        Check.feed(x, "F6*A10C3*B*X0Y0D2*");
        Check.due("read() of an open region", -19, x.read());
        x.clear();
        Check.feed(x, "F6*E*");
        Check.due("read() of no objects", 0, x.read());
        Check.feed(x, "F6*E");
        Check.due("read() of what ends too soon, a former text was longer", -5, x.read());
        x.clear();
        for (int round = 0; round < 3; round++) {
            Check.feed(x, "F6*A11R3,2*A10C3*D11*X7Y7D3*X8Y8D3*D10*X5Y5D1*");
            Check.due("read()", 3, x.read());
            Check.due("what is written", "F6*A10C3*A11R3,2*D11*X7Y7D3*X8Y8D3*D10*X5Y5D1*E*", Check.written(x));
            for (int k = 0; k < 2; k++) {
                Check.due("object(" + k + ", 5)", ImageTexts.NONE, x.object(k, 5));
                Check.due("object(" + k + ", 6)", ImageTexts.NONE, x.object(k, 6));
                Check.due("object(" + k + ", 9)", 0, x.object(k, 9));
                Check.due("attribute(" + k + ", 0)", ImageTexts.NONE, x.attribute(k, 0));
            }
        }
        ImageTexts selected = Check.image("F6*A10C3*D10*");
        Check.feed(selected, "F6*A10C3*X0Y0D3*");
        Check.due("read() with nothing selected", -10, selected.read());
    }

    /** Beyond 512 calls all is free, yet the document names the length. */
    private static void longestText() {
        ImageTexts x = new ImageTexts();
        Check.feed(x, "F6*" + "\n".repeat(2997));
        Check.due("unit(10), the 3001st", false, x.unit(10));
        Check.due("read()", 0, x.read());
        Check.due("odd(0)", 2997, x.odd(0));
    }

    private static void whatStaysAndGoes() {
        ImageTexts x = Check.image("F6*M0*A10C3*D10*S2,1,9,9*Tq*X5Y5D3*E*");
        Check.feed(x, "F6*D10*");
        Check.due("read()", -4, x.read());
        Check.due("in(5, 5)", true, x.in(5, 5));
        Check.due("aperture(0, 1, 0)", 11, x.aperture(0, 1, 0));
        Check.due("region(true)", true, x.region(true));
        Check.due("read() of a text that stays", -4, x.read());
        Check.due("corner(1, 1)", true, x.corner(1, 1));
        x.clear();
        x.repeat(3, 1, 50, 0);
        x.region(true);
        Check.feed(x, "F6*A12C1*D12*S1,7,0,5*Tz*N*X0Y0D3*");
        Check.due("read()", 1, x.read());
        Check.due("read() of a text that is gone", -1, x.read());
        Check.throwsState("corner(0, 0)", () -> Check.number(x.corner(0, 0)));
        Check.throwsOutOfBounds("flash(10, 0, 0, true)", () -> Check.number(x.flash(10, 0, 0, true)));
        Check.throwsState("macro(0, 0, 0)", () -> x.macro(0, 0, 0));
        Check.due("flash(12, 0, 0, true)", true, x.flash(12, 0, 0, true));
        Check.due("object(1, 7)", 3, x.object(1, 7));
        Check.due("object(1, 8)", 1, x.object(1, 8));
        Check.due("object(1, 1)", 1, x.object(1, 1));
        Check.due("attribute(1, 0)", ImageTexts.NONE, x.attribute(1, 0));
    }
}
