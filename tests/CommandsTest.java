/** Each sentence of 'Terms' on a COMMAND, on WRONG and on HABITS has a method of its own, in the document's order. */
public final class CommandsTest {
    private static final int NONE = ImageTexts.NONE;
    private static final String HEAD = "F6*M0:C1,1,0,0*A10C3*A11R4,2*A12M0*";
    private static final String CORNERS = "X0Y0D2*X9Y0D1*X0Y9D1*";
    private static final String LETTERS_OF_COMMANDS = "MADXBZPNSTE";
    /** Commands that have the form of one and no place in the text, with what must stand ahead of each. */
    private static final String[][] WRONG_BY_MEANING = {{"", "F7*"}, {"F6*", "M1:C1,1,0,0*"}, {"F6*", "M0:C2,1,0,0*"},
        {"F6*", "M0:R1,1,0,0,0*"}, {"F6*", "A9C1*"}, {"F6*A10C1*", "A10R1,1*"}, {"F6*", "A10C0*"}, {"F6*", "A10R1,0*"},
        {"F6*", "A10M0*"}, {"F6*", "D10*"}, {"F6*", "X0Y0D1*"}, {"F6*", "X0Y0D3*"}, {"F6*", "X0Y1000001D2*"},
        {HEAD + "D11*", "X0Y0D1*"}, {"F6*", "S0,1,0,0*"}, {"F6*", "S1,1,0,1000001*"}, {"F6*", "Z*"}, {"F6*B*", "Z*"},
        {"F6*B*", "X0Y0D1*"}, {"F6*B*", "X0Y0D3*"}, {"F6*B*X0Y0D2*", "X0Y0D2*"}, {"F6*B*X0Y0D2*X1Y1D1*", "Z*"}};

    public static void main(String[] args) {
        theNextMacro();
        apertureThatIsNotToldYet();
        macroThatIs();
        apertureThatIsTold();
        oneTwoOrThree();
        withTheSelectedCircle();
        thePlaceAtHand();
        twoFirstOnceThenOne();
        darkAtFirst();
        repeatedSo();
        upTo8SmallLetters();
        theEnd();
        inARegion();
        noCommandBegins();
        firstCharacterByWhichATextIsNone();
        itsFirstCharacterWhenItsStarHasCome();
        atTheTextsEndTheLength();
        a61stObject();
        noZAheadOfTheEnd();
        lineFeedsAreAHabit();
        zerosAheadAreAHabit();
        noEIsAHabit();
        Check.close("CommandsTest");
    }

    private static void wrong(String marked) {
        Check.wrong(marked);
    }

    private static void right(int objects, String text) {
        Check.right(objects, text);
    }

    /** "M and a WHOLE, the next macro" */
    private static void theNextMacro() {
        String told = "F6*";
        for (int count = 0; count <= 5; count++) {
            for (int number = 0; number < 8; number++) {
                if (number == count && count < 5) {
                    right(0, told + "M" + number + ":C1,1,0,0*");
                } else {
                    wrong(told + "!M" + number + ":C1,1,0,0*");
                }
            }
            wrong(told + "!M9999999*");
            told += "M" + count + "*";
        }
        ImageTexts x = new ImageTexts();
        x.macro(NONE, 0, 0);
        Check.feed(x, "F6*M1*");
        Check.due("read(): a macro of calls is none of a text", -4, x.read());
    }

    /** "A and a WHOLE, an aperture that is not told yet" */
    private static void apertureThatIsNotToldYet() {
        for (String again : new String[] {"A10C1*", "A10R1,1*", "A10M0*", "A010C3*"}) {
            wrong(HEAD + "!" + again);
            wrong(HEAD + "D10*X0Y0D3*\n!" + again);
        }
        right(0, HEAD + "A13C1*A29M0*A28R1,1*");
        ImageTexts x = new ImageTexts();
        x.aperture(0, 1, 0);
        Check.feed(x, "F6*A10C2*");
        Check.due("read(): what calls told is not told in a text", 0, x.read());
    }

    /** "M and a WHOLE, a macro that is" */
    private static void macroThatIs() {
        wrong("F6*!A10M0*");
        wrong("F6*!A10M0*M0*");
        wrong(HEAD + "!A13M1*");
        wrong(HEAD + "M1*!A13M2*");
        wrong(HEAD + "M1*M2*M3*M4*!A13M5*");
        right(0, HEAD + "M1*M2*M3*M4*A13M4*A14M4*A15M0*");
        ImageTexts x = new ImageTexts();
        x.macro(NONE, 0, 0);
        Check.feed(x, "F6*A10M0*");
        Check.due("read(): a macro of calls is none of a text", -4, x.read());
    }

    /** "D and a WHOLE, an aperture that is told: it is SELECTED" */
    private static void apertureThatIsTold() {
        wrong("F6*!D10*");
        wrong("F6*!D10*A10C1*");
        wrong(HEAD + "!D13*");
        wrong(HEAD + "!D9*");
        wrong(HEAD + "!D30*");
        ImageTexts x = Check.image(HEAD + "D10*D12*X0Y0D3*D11*X0Y0D3*X1Y0D3*");
        Check.due("object(0, 2)", 12, x.object(0, 2));
        Check.due("object(1, 2)", 11, x.object(1, 2));
        Check.due("object(2, 2)", 11, x.object(2, 2));
    }

    /** "X, a NUMBER, Y, a NUMBER, D and 1, 2 or 3" */
    private static void oneTwoOrThree() {
        for (char c = ' '; c <= '~'; c++) {
            if (c != '1' && c != '2' && c != '3' && c != '!') {
                wrong(HEAD + "D10*X1Y1D!" + c + "*");
                wrong("F6*B*X1Y1D!" + c + "*");
            }
        }
        wrong(HEAD + "D10*X1Y1D!01*");
        wrong(HEAD + "D10*X1Y1D1!0*");
        wrong(HEAD + "D10*X1!*");
        wrong(HEAD + "D10*X1!,1D3*");
        wrong(HEAD + "D10*X1Y1!*");
        right(2, HEAD + "D10*X1Y1D1*X1Y1D2*X1Y1D3*");
    }

    /** "a LINE ... (with the SELECTED CIRCLE)", "a FLASH there (of the SELECTED one ...)" */
    private static void withTheSelectedCircle() {
        wrong(HEAD + "!X1Y1D1*");
        wrong(HEAD + "!X1Y1D3*");
        right(0, HEAD + "X1Y1D2*");
        wrong(HEAD + "D11*!X1Y1D1*");
        wrong(HEAD + "D12*!X1Y1D1*");
        wrong(HEAD + "D10*D11*!X1Y1D1*");
        right(1, HEAD + "D11*D10*X1Y1D1*");
        right(1, HEAD + "D11*X1Y1D3*");
        right(1, HEAD + "D12*X1Y1D3*");
    }

    /** "a LINE from the place at hand to that one", "the place at hand goes along with its corners" */
    private static void thePlaceAtHand() {
        beginning(0, 0, "D10*");
        beginning(5, -6, "D10*X5Y-6D2*");
        beginning(7, 8, "D10*X5Y-6D2*X7Y8D2*");
        beginning(5, -6, "D11*X5Y-6D3*D10*");
        beginning(5, -6, "D10*X5Y-6D1*");
        beginning(0, 9, "D10*X5Y5D2*B*" + CORNERS + "Z*");
        beginning(5, -6, "D10*X5Y-6D2*P*N*S2,2,2,2*Ta*D11*D10*A20C1*M1*\n");
    }

    private static void beginning(int x, int y, String ahead) {
        ImageTexts image = Check.image(HEAD + ahead + "X1Y2D1*");
        int latest = Check.answer(() -> image.object(1, 0)) < 0 ? 0 : 1;
        Check.due("where the line behind " + ahead + " begins, x", x, image.object(latest, 3));
        Check.due("where the line behind " + ahead + " begins, y", y, image.object(latest, 4));
        Check.due("where it ends, x", 1, image.object(latest, 5));
        Check.due("where it ends, y", 2, image.object(latest, 6));
    }

    /** "in which 2 is told first, once, for the first corner, then 1 for each other one" */
    private static void twoFirstOnceThenOne() {
        for (String ahead : new String[] {HEAD, HEAD + "D10*"}) {
            wrong(ahead + "B*!X0Y0D1*");
            wrong(ahead + "B*!X0Y0D3*");
            wrong(ahead + "B*X0Y0D2*!X0Y0D2*");
            wrong(ahead + "B*X0Y0D2*!X0Y0D3*");
            wrong(ahead + "B*X0Y0D2*X0Y1D1*!X0Y0D2*");
            wrong(ahead + "B*" + CORNERS + "!X0Y0D2*Z*");
            right(1, ahead + "B*" + CORNERS + "Z*");
            // a second region has a first corner of its own
            right(2, ahead + "B*" + CORNERS + "Z*B*" + CORNERS + "Z*");
            wrong(ahead + "B*" + CORNERS + "Z*B*!X0Y0D1*");
        }
    }

    /** "P: what follows is DARK (so at first), N: CLEAR" */
    private static void darkAtFirst() {
        ImageTexts x = Check.image(HEAD + "D10*X0Y0D3*N*X0Y0D3*X0Y0D1*B*" + CORNERS + "Z*N*X0Y0D3*P*X0Y0D3*P*X0Y0D3*");
        int[] dark = {1, 0, 0, 0, 0, 1, 1};
        for (int k = 0; k < dark.length; k++) {
            Check.due("object(" + k + ", 1)", dark[k], x.object(k, 1));
        }
    }

    /** "S and two WHOLES, columns and rows, and two NUMBERS, with commas: what follows is repeated so" */
    private static void repeatedSo() {
        wrong("F6*S!*");
        wrong("F6*S1!*");
        wrong("F6*S1,1!*");
        wrong("F6*S1,1,0!*");
        wrong("F6*S1,1,0,!*");
        wrong("F6*S1,1,0,0!,0*");
        wrong("F6*S1!;1,0,0*");
        ImageTexts x = Check.image(HEAD + "D10*X0Y0D3*S2,3,50,50*X0Y0D3*X0Y0D1*B*" + CORNERS + "Z*S1,1,0,0*X0Y0D3*");
        int[] columns = {1, 2, 2, 2, 1};
        int[] rows = {1, 3, 3, 3, 1};
        for (int k = 0; k < columns.length; k++) {
            Check.due("object(" + k + ", 7)", columns[k], x.object(k, 7));
            Check.due("object(" + k + ", 8)", rows[k], x.object(k, 8));
        }
    }

    /** "T and up to 8 small letters: what follows has this ATTRIBUTE (at first none)" */
    private static void upTo8SmallLetters() {
        String letters = "azbycxdw";
        for (int count = 0; count <= 8; count++) {
            ImageTexts x = Check.image(HEAD + "D10*X0Y0D3*Tqqqqqqqq*T" + letters.substring(0, count) + "*X0Y0D3*");
            Check.due("attribute(0, 0)", NONE, x.attribute(0, 0));
            for (int i = 0; i <= 9; i++) {
                Check.due("attribute(1, " + i + ") of " + count, i < count ? letters.charAt(i) : NONE, x.attribute(1, i));
            }
        }
        wrong("F6*T" + letters + "!a*");
        wrong("F6*T" + letters + "!1");
        for (char c = ' '; c <= '~'; c++) {
            boolean fits = (c >= 'a' && c <= 'z') || c == '*' || c == '!';
            if (!fits) {
                wrong("F6*T!" + c + "*");
                wrong("F6*Ta!" + c + "*");
            }
        }
    }

    /** "E: the end, with nothing but line feeds behind" */
    private static void theEnd() {
        right(0, "F6*E*");
        right(0, "F6*E*\n\n\n");
        right(0, "F6*\nE*");
        for (char c = ' '; c <= '~'; c++) {
            if (c != '!') {
                wrong("F6*E*!" + c);
                wrong("F6*E*\n\n!" + c + "*");
                wrong("F6*E*!" + c + "\n");
            }
        }
        wrong("F6*E!6*");
        wrong("F6*E!\n*");
        wrong("!E*");
    }

    /** "In a REGION there are X, line feeds and Z alone (another character is WRONG itself ...)" */
    private static void inARegion() {
        for (char c = ' '; c <= '~'; c++) {
            if (c != 'X' && c != 'Z' && c != '!') {
                wrong(HEAD + "B*!" + c + "*");
                wrong(HEAD + "D10*B*X0Y0D2*\n!" + c + "10*");
                wrong(HEAD + "B*" + CORNERS + "!" + c);
            }
        }
        right(1, HEAD + "B*\n\n" + CORNERS + "\nZ*\n");
    }

    /** "as is one by which no COMMAND begins" */
    private static void noCommandBegins() {
        for (char c = ' '; c <= '~'; c++) {
            if (LETTERS_OF_COMMANDS.indexOf(c) >= 0) {
                wrong("F6*" + c + "!");
            } else if (c != '!') {
                wrong("F6*!" + c);
                wrong("F6*!" + c + "*");
                wrong(HEAD + "D10*X0Y0D3*\n!" + c + "10*");
            }
        }
        ImageTexts x = new ImageTexts();
        Check.feed(x, "F6*!*");
        Check.due("read() of F6*!*", -4, x.read());
    }

    /** "WRONG is the first character by which a text is none" */
    private static void firstCharacterByWhichATextIsNone() {
        // also when the command would be none by what it means, for its * has not come
        for (String[] parts : WRONG_BY_MEANING) {
            String unended = parts[1].substring(0, parts[1].length() - 1);
            wrong(parts[0] + unended + "!$*");
            wrong(parts[0] + unended + "!\n*");
            wrong(parts[0] + unended + "! ");
        }
        wrong("F6*!D10*F");
        wrong("F6*!Q*D10*");
        wrong("F6*A9!*D10*");
    }

    /** "when a COMMAND is none by what it means ... its first character, found when its * has come" */
    private static void itsFirstCharacterWhenItsStarHasCome() {
        for (String[] parts : WRONG_BY_MEANING) {
            wrong(parts[0] + "!" + parts[1]);
            wrong(parts[0] + "!" + parts[1] + "E*");
            wrong(parts[0] + "!" + parts[1] + "?");
            wrong("\n" + parts[0] + "\n\n!" + parts[1]);
        }
    }

    /** "or, at the text's end, the length" */
    private static void atTheTextsEndTheLength() {
        for (String[] parts : WRONG_BY_MEANING) {
            for (int cut = 1; cut < parts[1].length(); cut++) {
                wrong(parts[0] + parts[1].substring(0, cut) + "!");
            }
        }
        wrong("!");
        wrong("\n\n!");
        String all = "\n" + HEAD + "D10*X0Y-5D3*N*P*S2,3,4,-5*Tab*T*X12Y5D1*X1Y1D2*B*" + CORNERS + "Z*E*\n";
        for (int cut = 0; cut < all.length(); cut++) {
            int read = Check.read(all.substring(0, cut));
            Check.due("whether the first " + cut + " are a text or end too soon: " + read, true,
                    read >= 0 || read == -1 - cut);
        }
        right(3, all);
    }

    /** "a 61st OBJECT" */
    private static void a61stObject() {
        String fiftyNine = "F6*A10C1*D10*" + "X0Y0D3*".repeat(59);
        String sixty = fiftyNine + "X0Y0D3*";
        wrong(sixty + "!X0Y0D3*");
        wrong(sixty + "!X0Y0D1*");
        wrong(sixty + "!B*");
        wrong(sixty + "X0Y0D2*\n!X0Y0D3*E*");
        wrong(sixty + "X0Y0D3!");
        wrong(sixty + "X0Y0D3!?");
        wrong(fiftyNine + "X0Y0D1*!X0Y0D3*");
        wrong(fiftyNine + "B*" + CORNERS + "Z*!X0Y0D3*");
    }

    /** "no Z ahead of the end" */
    private static void noZAheadOfTheEnd() {
        wrong("F6*B*!");
        wrong("F6*B*\n!");
        wrong("F6*B*" + CORNERS + "!");
        wrong("F6*B*" + CORNERS + "\n\n!");
        wrong("F6*B*" + CORNERS + "Z!");
        wrong("F6*B*" + CORNERS + "!E*");
        right(1, "F6*B*" + CORNERS + "Z*");
    }

    private static void odd(int k, int want, String text) {
        Check.due("odd(" + k + ") of " + text.replace('\n', '|'), want, Check.image(text).odd(k));
    }

    /** "0 a line feed" */
    private static void lineFeedsAreAHabit() {
        odd(0, 0, "F6*E*");
        odd(0, 1, "\nF6*E*");
        odd(0, 2, "F6*\n\nE*");
        odd(0, 3, "F6*E*\n\n\n");
        odd(0, 4, "\nF6*B*\nX0Y0D2*X9Y0D1*\nX0Y9D1*Z*E*\n");
    }

    /** "1 a WHOLE, or NUMBER, of two digits or more that begins with 0 (behind -)" */
    private static void zerosAheadAreAHabit() {
        String[] none = {"F0*", "F6*X0Y-0D2*", "F6*X10Y-100D2*", "F6*S10,10,0,0*", "F6*M0:C0,10,0,-0*", HEAD + "D10*"};
        for (String text : none) {
            odd(1, 0, text);
        }
        String[] one = {"F00*", "F06*", "F0000006*", "F6*M00*", "F6*M0:C01,1,0,0*", "F6*M0:C00,1,0,0*",
            "F6*M0:C1,01,0,0*", "F6*M0:C1,1,00,0*", "F6*M0:C1,1,0,-01*", "F6*M0:R1,1,0100,0,0*", "F6*A010C1*",
            "F6*A10C01*", "F6*A10R1,02*", "F6*M0*A10M00*", HEAD + "D010*", "F6*X00Y0D2*", "F6*X0Y-00D2*",
            "F6*X-07Y7D2*", "F6*S01,1,0,0*", "F6*S1,010,0,0*", "F6*S1,1,00,0*", "F6*S1,1,0,-0000005*"};
        for (String text : one) {
            odd(1, 1, text);
        }
        odd(1, 4, "F06*X01Y01D2*X10Y-010D2*");
    }

    /** "2 no E" */
    private static void noEIsAHabit() {
        odd(2, 1, "F6*");
        odd(2, 1, "F6*\n");
        odd(2, 0, "F6*E*");
        odd(2, 0, "F6*E*\n");
        odd(2, 1, HEAD + "D10*X0Y0D3*");
    }
}
