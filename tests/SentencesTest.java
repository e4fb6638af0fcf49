/** The sentences of the document that leave room, each held word by word by a method of its own. */
public final class SentencesTest {
    private static final int NONE = ImageTexts.NONE;
    private static final String HEAD = "F6*A10C3*A11R4,2*";
    private static final String PRIMITIVE = ":C1,1,0,0";
    private static final String RING = "B*X1Y2D2*X9Y0D1*X0Y9D1*Z*";

    public static void main(String[] args) {
        whatOneTwoAndThreeDo();
        thePlaceGoesAlongWithCorners();
        linesAreWrittenFromThePlaceAtHand();
        writtenChainsAreReadAgain();
        upTo4Primitives();
        primitivesAreWholesAndNumbers();
        upTo8Letters();
        firstCharacterByWhichItIsNone();
        noneByWhatItMeans();
        the61stObject();
        anotherCharacterIsWrongItself();
        theFirstCommandIsF();
        alikeInAll();
        theSameShapes();
        Check.close("SentencesTest");
    }

    private static void wrong(String marked) {
        Check.wrong(marked);
    }

    private static void right(int objects, String text) {
        Check.right(objects, text);
    }

    private static void values(String text, int k, int... want) {
        ImageTexts x = Check.image(text);
        for (int what = 0; what < want.length; what++) {
            Check.due("object(" + k + ", " + what + ") of " + text, want[what], x.object(k, what));
        }
    }

    /**
     * "D and 1, 2 or 3: a LINE from the place at hand to that one (with the SELECTED CIRCLE), the place at hand goes
     * there, or a FLASH there (of the SELECTED one, the place at hand goes there, too)"
     */
    private static void whatOneTwoAndThreeDo() {
        values(HEAD + "D10*X1Y2D2*X3Y4D1*", 0, 1, 1, 10, 1, 2, 3, 4);
        right(0, HEAD + "D10*X1Y2D2*");
        values(HEAD + "D11*X3Y4D3*", 0, 0, 1, 11, 3, 4, NONE, NONE);
        // where the next line begins tells where the place at hand has gone
        values(HEAD + "D10*X1Y2D1*X3Y4D1*", 1, 1, 1, 10, 1, 2, 3, 4);
        values(HEAD + "D10*X1Y2D1*X1Y2D2*X3Y4D1*", 1, 1, 1, 10, 1, 2, 3, 4);
        values(HEAD + "D11*X1Y2D3*D10*X3Y4D1*", 1, 1, 1, 10, 1, 2, 3, 4);
        values(HEAD + "D10*X1Y2D1*X3Y4D1*X5Y6D1*X7Y8D1*", 3, 1, 1, 10, 5, 6, 7, 8);
    }

    /** "Z: it ends (the place at hand goes along with its corners)" */
    private static void thePlaceGoesAlongWithCorners() {
        values(HEAD + "D10*X5Y5D2*" + RING + "X3Y4D1*", 1, 1, 1, 10, 0, 9, 3, 4);
        values(HEAD + RING + RING + "D10*X3Y4D1*", 2, 1, 1, 10, 0, 9, 3, 4);
        values(HEAD + RING, 0, 2, 1, NONE, 1, 2, NONE, NONE, 1, 1, 3);
    }

    private static void written(String want, String text) {
        Check.due("what is written of " + text, want, Check.written(Check.image(text)));
    }

    /** "a LINE with X, Y, D2 when the place at hand (at first 0, 0) is not its beginning" */
    private static void linesAreWrittenFromThePlaceAtHand() {
        written(HEAD + "D10*X0Y0D1*X3Y4D1*E*", HEAD + "D10*X0Y0D2*X0Y0D1*X0Y0D2*X3Y4D1*");
        written(HEAD + "D10*X1Y2D1*X3Y4D1*E*", HEAD + "D10*X1Y2D1*X1Y2D2*X3Y4D1*");
        written(HEAD + "D10*X1Y2D1*X0Y0D2*X3Y4D1*E*", HEAD + "D10*X1Y2D1*X0Y0D2*X3Y4D1*");
        written(HEAD + "D10*X1Y2D3*X3Y4D1*E*", HEAD + "D10*X1Y2D3*X5Y5D2*X1Y2D2*X3Y4D1*");
        written(HEAD + RING + "D10*X3Y4D1*E*", HEAD + RING + "D10*X0Y9D2*X3Y4D1*");
        written(HEAD + RING + "D10*X1Y2D2*X3Y4D1*E*", HEAD + RING + "D10*X1Y2D2*X3Y4D1*");
    }

    /** Lines of calls, chained and not, are the same ones when what is written has been read. */
    private static void writtenChainsAreReadAgain() {
        int[] places = {0, 0, 1, 0, 1, 1, 0, 1};
        for (int code = 0; code < 4096; code++) {
            ImageTexts x = new ImageTexts();
            x.aperture(0, 1, 0);
            for (int k = 0; k < 3; k++) {
                int from = code >> (4 * k) & 3;
                int to = code >> (4 * k + 2) & 3;
                x.line(10, places[2 * from], places[2 * from + 1], places[2 * to], places[2 * to + 1]);
            }
            ImageTexts again = Check.image(Check.written(x));
            for (int k = 0; k < 3; k++) {
                for (int what = 3; what < 7; what++) {
                    Check.due("object(" + k + ", " + what + ") of " + code, x.object(k, what), again.object(k, what));
                }
            }
        }
    }

    /** "a MACRO, 0 .. 4: up to 4 primitives", "then its primitives" */
    private static void upTo4Primitives() {
        for (int count = 0; count <= 4; count++) {
            right(0, "F6*M0" + PRIMITIVE.repeat(count) + "*");
            wrong("F6*M0" + PRIMITIVE.repeat(count) + "!");
            wrong("F6*M0" + PRIMITIVE.repeat(count) + "!;*");
        }
        wrong("F6*M0" + PRIMITIVE.repeat(4) + "!" + PRIMITIVE + "*");
        wrong("F6*M0" + PRIMITIVE.repeat(4) + "!:");
        // also when what the macro means is none, for its * has not come
        wrong("F6*M5" + PRIMITIVE.repeat(4) + "!" + PRIMITIVE + "*");
        wrong("F6*!M5" + PRIMITIVE.repeat(4) + "*");
    }

    /** ":C and WHOLES 1 or 0 (ON), radius, then NUMBERS x, y with commas between, or :R, 1 or 0, width, height, x, y" */
    private static void primitivesAreWholesAndNumbers() {
        right(0, "F6*M0:C1,1000000,-1000000,1000000:R0,1000000,1,-0,1000000*");
        right(0, "F6*M0:C01,01,00,-00*");
        String[] byMeaning = {":C2,1,0,0", ":C9999999,1,0,0", ":C1,0,0,0", ":C1,1000001,0,0", ":C1,1,1000001,0",
            ":C1,1,0,-1000001", ":R2,1,1,0,0", ":R1,0,1,0,0", ":R1,1,0,0,0", ":R1,1,1000001,0,0", ":R1,1,1,0,9999999"};
        for (String part : byMeaning) {
            wrong("F6*!M0" + part + "*");
            wrong("F6*!M0" + PRIMITIVE + part + "*");
            wrong("F6*!M0" + part + PRIMITIVE + "*");
            wrong("F6*M0" + part + "!");
        }
        String[] byCharacter = {":!c1,1,0,0", ":!M1,1,0,0", ":C!-1,1,0,0", ":C!,1,0,0", ":C1!:1,0,0", ":C1,!-1,0,0",
            ":C1,1,0!*", ":C1,1!*", ":C1,1,0,0!,0", ":C1,1,0,!+1", ":R1,1,!-1,0,0", ":R1,1,1,0!*", ":R1,1,1,0,0!,0",
            ":C1,1,-!-1,0", ":C1,0000000!1,0,0"};
        for (String part : byCharacter) {
            wrong("F6*M0" + part + "*");
        }
    }

    /** "T and up to 8 small letters" */
    private static void upTo8Letters() {
        right(0, "F6*T*Ta*Tzzzzzzzz*");
        wrong("F6*Tabcdefgh!i*");
        wrong("F6*Tabcdefgh!ij*");
        wrong("F6*Tabcdefgh!");
        wrong("F6*Tabcd!E*");
        wrong("F6*Tabcd!\n*");
    }

    /** "WRONG is the first character by which a text is none, or its length" */
    private static void firstCharacterByWhichItIsNone() {
        wrong(HEAD + "D10*X1Y1D!0*");
        wrong(HEAD + "D10*X1Y1D!4*");
        wrong(HEAD + "D10*X1Y1D!01*");
        wrong(HEAD + "D10*X1Y1D1!1*");
        wrong(HEAD + "D10*X1Y1D!*");
        wrong(HEAD + "D10*X1Y1D!");
        wrong(HEAD + "D10*X1Y1D1!");
        wrong(HEAD + "D10!\n*");
        wrong("F6*X1234567!8Y0D2*");
        wrong("F6*X-1234567!8Y0D2*");
    }

    /** "when a COMMAND is none by what it means ... its first character, found when its * has come" */
    private static void noneByWhatItMeans() {
        String[] none = {"M1*", "M5*", "A9C1*", "A30C1*", "A10C1*", "A12C0*", "A12M0*", "D12*", "X1Y1D1*", "X1Y1D3*",
            "X1000001Y1D2*", "S0,1,0,0*", "S11,1,0,0*", "S1,1,0,1000001*", "Z*"};
        for (String command : none) {
            wrong(HEAD + "!" + command);
            wrong(HEAD + "!" + command + "?");
            wrong(HEAD + "\n!" + command + "\nE*");
            wrong(HEAD + command.substring(0, command.length() - 1) + "!");
            wrong(HEAD + command.substring(0, command.length() - 1) + "!?");
        }
        wrong("!F7*");
        wrong("F7!");
        wrong("F7!?*");
    }

    /** "a 61st OBJECT; no Z ahead of the end" */
    private static void the61stObject() {
        String full = HEAD + "D10*" + "X0Y0D3*".repeat(60);
        right(60, full + "X1Y1D2*N*P*E*");
        wrong(full + "!X0Y0D3*");
        wrong(full + "!X0Y0D1*");
        wrong(full + "!" + RING);
        wrong(full + "!B*");
        wrong(full + "B!");
        wrong(full + "B!?");
        wrong(HEAD + RING.substring(0, RING.length() - 2) + "!");
    }

    /** "In a REGION there are X, line feeds and Z alone (another character is WRONG itself, as is one by which ...)" */
    private static void anotherCharacterIsWrongItself() {
        for (char c : "FMADBPNSTEYC ?*09".toCharArray()) {
            wrong(HEAD + "B*!" + c + "*");
            wrong(HEAD + "B*X0Y0D2*\n!" + c + "10*");
        }
        for (char c : "FYCGxe ?*09:,-".toCharArray()) {
            wrong(HEAD + "!" + c + "6*");
        }
    }

    /** "The first COMMAND is F and a WHOLE n, 0 .. 6" */
    private static void theFirstCommandIsF() {
        for (int n = 0; n < 12; n++) {
            if (n <= 6) {
                right(0, "F" + n + "*");
            } else {
                wrong("!F" + n + "*");
            }
        }
        for (char c = ' '; c <= '~'; c++) {
            if (c != 'F' && c != '!') {
                wrong("!" + c);
                wrong("!" + c + "*F6*");
                wrong("\n\n!" + c + "10*");
            }
        }
        wrong("F!-1*");
        wrong("F!*");
        wrong("F6*!F6*");
        wrong("!");
        wrong("\n!");
    }

    /** Whether the object of one head is alike to that of another. */
    private static void alike(boolean want, String one, String other) {
        String shapes = "F6*M0:C1,3,0,0*M1:C1,3,0,0*M2:C1,3,0,0:C1,3,0,0*A10C3*A11C3*A12R3,3*A13R3,3*A14M0*A15M1*A16M2*"
                + "A17M0*A18C4*A19R3,4*A20R4,3*";
        ImageTexts x = Check.image(shapes + one + "P*S1,1,0,0*T*X0Y0D2*" + other);
        Check.due("same(0) of " + one + " and " + other, want, x.same(0));
        Check.due("same(1), itself", true, x.same(1));
    }

    /** "Whether two objects are alike in all but their apertures' numbers" */
    private static void alikeInAll() {
        String[] all = {"D10*X1Y1D3*", "D10*X1Y1D1*", "D10*X1Y2D3*", "D10*X2Y1D3*", "D10*X1Y2D1*", "D10*X2Y1D1*",
            "D10*N*X1Y1D3*", "D10*S1,2,0,0*X1Y1D3*", "D10*S2,1,0,0*X1Y1D3*", "D10*S1,1,1,0*X1Y1D3*",
            "D10*S1,1,0,1*X1Y1D3*", "D10*Ta*X1Y1D3*", "D10*Tb*X1Y1D3*", "D10*Tab*X1Y1D3*", RING, "N*" + RING, "Ta*" + RING,
            "S1,2,0,0*" + RING, "B*X1Y2D2*X0Y9D1*X9Y0D1*Z*", "B*X1Y2D2*X9Y0D1*X0Y9D1*X1Y2D1*Z*"};
        for (int one = 0; one < all.length; one++) {
            for (int other = 0; other < all.length; other++) {
                alike(one == other, all[one], all[other]);
            }
        }
    }

    /** "(these have the same shapes)" */
    private static void theSameShapes() {
        int[] shapes = {0, 0, 1, 1, 2, 2, 3, 2, 4, 5, 6};
        for (int one = 0; one < shapes.length; one++) {
            for (int other = 0; other < shapes.length; other++) {
                alike(shapes[one] == shapes[other], "D" + (10 + one) + "*X1Y1D3*", "D" + (10 + other) + "*X1Y1D3*");
            }
        }
        alike(true, "D10*X1Y1D1*", "D11*X1Y1D1*");
        alike(false, "D10*X1Y1D1*", "D18*X1Y1D1*");
        // the selected aperture is none of a region's
        alike(true, "D10*" + RING, "D18*" + RING);
    }
}
