/** Promises 4, 14 and 15: object, same, attribute. */
public final class ObjectTest {
    public static void main(String[] args) {
        valuesOfEachKind();
        likeObjects();
        unlikeObjects();
        likeShapes();
        likeShapesAnew();
        attributes();
        Check.close("ObjectTest");
    }

    private static void values(ImageTexts x, int k, int... want) {
        for (int what = 0; what < want.length; what++) {
            Check.due("object(" + k + ", " + what + ")", want[what], x.object(k, what));
        }
    }

    private static void valuesOfEachKind() {
        ImageTexts x = Check.image("F6*A10C3*A29R4,2*D29*N*X5Y-6D3*P*D10*S3,4,7,8*X7Y8D1*"
                + "N*B*X-1Y-2D2*X9Y0D1*X9Y9D1*X8Y9D1*X7Y9D1*Z*X20Y21D1*E*");
        values(x, 0, 0, 0, 29, 5, -6, -1, -1, 1, 1, 0);
        values(x, 1, 1, 1, 10, 5, -6, 7, 8, 3, 4, 0);
        values(x, 2, 2, 0, -1, -1, -2, -1, -1, 3, 4, 5);
        // the place at hand has gone along with the corners
        values(x, 3, 1, 0, 10, 7, 9, 20, 21, 3, 4, 0);
        Check.throwsOutOfBounds("object(4, 0)", () -> x.object(4, 0));
        Check.throwsOutOfBounds("object(-1, 0)", () -> x.object(-1, 0));
        Check.throwsOutOfBounds("object(0, -1)", () -> x.object(0, -1));
        Check.throwsOutOfBounds("object(0, 10)", () -> x.object(0, 10));
        Check.throwsOutOfBounds("object(MAX, MIN)", () -> x.object(Integer.MAX_VALUE, Integer.MIN_VALUE));
        ImageTexts chain = Check.image("F6*A10C1*D10*X1Y2D1*X3Y4D2*X5Y6D1*X7Y8D1*");
        values(chain, 0, 1, 1, 10, 0, 0, 1, 2, 1, 1, 0);
        values(chain, 1, 1, 1, 10, 3, 4, 5, 6, 1, 1, 0);
        values(chain, 2, 1, 1, 10, 5, 6, 7, 8, 1, 1, 0);
    }

    /** Whether the latest object of a text is the same as its first one. */
    private static void same(boolean want, String objects) {
        ImageTexts x = Check.image("F6*M0:C1,5,0,0:R0,2,4,3,0*M1:C1,5,0,0:R0,2,4,3,0*M2:C1,5,0,0*"
                + "A10C3*A11C3*A12C4*A13R3,5*A14R3,5*A15R5,3*A16M0*A17M1*A18M2*A19R3,1*" + objects);
        Check.due("same(0) behind " + objects, want, x.same(0));
    }

    private static void likeObjects() {
        same(true, "D10*X1Y2D3*");
        same(true, "D10*X1Y2D3*D11*X1Y2D3*");
        same(true, "D10*X1Y2D3*N*X5Y5D3*P*X1Y2D3*");
        same(true, "D10*X1Y2D1*X0Y0D2*D11*X1Y2D1*");
        same(true, "D10*B*X0Y0D2*X1Y0D1*X1Y1D1*Z*D12*B*X0Y0D2*X1Y0D1*X1Y1D1*Z*");
        same(true, "S2,1,5,0*Tab*D10*X1Y2D3*T*S1,1,0,0*S2,1,5,0*Tab*X1Y2D3*");
    }

    private static void unlikeObjects() {
        same(false, "D10*X1Y2D3*X1Y3D3*");
        same(false, "D10*X1Y2D3*X2Y2D3*");
        same(false, "D10*X1Y2D3*N*X1Y2D3*");
        same(false, "D10*X0Y0D3*X0Y0D1*");
        same(false, "D10*X1Y2D1*X0Y0D1*");
        same(false, "D10*X1Y2D1*X0Y0D2*X1Y3D1*");
        same(false, "D10*X1Y2D3*S2,1,0,0*X1Y2D3*");
        same(false, "D10*X1Y2D3*S1,2,0,0*X1Y2D3*");
        same(false, "D10*S2,2,1,1*X1Y2D3*S2,2,2,1*X1Y2D3*");
        same(false, "D10*S2,2,1,1*X1Y2D3*S2,2,1,2*X1Y2D3*");
        same(false, "D10*X1Y2D3*Ta*X1Y2D3*");
        same(false, "D10*Tab*X1Y2D3*Tac*X1Y2D3*");
        same(false, "D10*Tab*X1Y2D3*Tcb*X1Y2D3*");
        same(false, "D10*X0Y0D3*B*X0Y0D2*X1Y0D1*X1Y1D1*Z*");
        same(false, "D10*Tab*X1Y2D3*Ta*X1Y2D3*");
        same(false, "B*X0Y0D2*X1Y0D1*X1Y1D1*Z*B*X0Y0D2*X1Y1D1*X1Y0D1*Z*");
        same(false, "B*X0Y0D2*X1Y0D1*X1Y1D1*Z*B*X0Y0D2*X1Y0D1*X1Y1D1*X1Y1D1*Z*");
        ImageTexts x = Check.image("F6*A10C3*D10*X0Y0D3*X1Y1D3*X0Y0D3*");
        Check.due("same(0)", true, x.same(0));
        Check.due("same(1)", false, x.same(1));
        Check.due("same(2)", true, x.same(2));
        Check.throwsOutOfBounds("same(3)", () -> Check.number(x.same(3)));
        Check.throwsOutOfBounds("same(-1)", () -> Check.number(x.same(-1)));
        ImageTexts none = new ImageTexts();
        Check.throwsOutOfBounds("same(0) of none", () -> Check.number(none.same(0)));
        Check.throwsOutOfBounds("same(-1) of none", () -> Check.number(none.same(-1)));
    }

    private static void shapes(boolean want, int one, int two) {
        same(want, "D" + one + "*X1Y2D3*D" + two + "*X1Y2D3*");
    }

    private static void likeShapes() {
        shapes(true, 10, 11);
        shapes(false, 10, 12);
        shapes(true, 13, 14);
        shapes(false, 13, 15);
        shapes(false, 13, 19);
        shapes(false, 10, 19);
        shapes(true, 16, 17);
        shapes(false, 17, 18);
        shapes(false, 18, 10);
        ImageTexts x = new ImageTexts();
        x.macro(ImageTexts.NONE, 0, 0);
        x.macro(ImageTexts.NONE, 0, 0);
        x.aperture(2, 0, 0);
        x.aperture(2, 1, 0);
        x.flash(10, 0, 0, true);
        x.flash(11, 0, 0, true);
        Check.due("same(0) of two new macros", true, x.same(0));
        x.macro(0, 3, 9);
        Check.due("same(0), a circle has no height", true, x.same(0));
        long[] others = {1, 0, 2, 9, 1, -1};
        for (int k = 0; k < 6; k++) {
            ImageTexts y = new ImageTexts();
            y.macro(ImageTexts.NONE, 0, 0);
            y.macro(0, 0, 1);
            y.macro(ImageTexts.NONE, 0, 0);
            y.macro(0, 0, k == 0 ? 0 : 1);
            y.macro(0, k, k == 0 ? 0 : others[k]);
            y.aperture(2, 0, 0);
            y.aperture(2, 1, 0);
            y.flash(10, 0, 0, true);
            y.flash(11, 0, 0, true);
            Check.due("same(0), another value at " + k, false, y.same(0));
        }
    }

    /** Primitives of former macros are no part of those that took their places. */
    private static void likeShapesAnew() {
        ImageTexts x = Check.image("F6*M0:C1,1,0,0:C1,5,0,0*M1:C1,1,0,0:R1,7,7,0,0:C1,9,9,9*");
        x.clear();
        for (int macro = 0; macro < 2; macro++) {
            x.macro(ImageTexts.NONE, 0, 0);
            x.aperture(2, macro, 0);
            x.flash(10 + macro, 3, 3, true);
        }
        Check.due("same(0) of two new macros", true, x.same(0));
        x.macro(1, 2, 1);
        Check.due("same(0), one of them has grown", false, x.same(0));
    }

    private static void attributes() {
        ImageTexts x = Check.image("F6*A10C3*D10*X0Y0D3*Tabcdefgh*X0Y0D1*Tz*N*P*B*X0Y0D2*X1Y0D1*X1Y1D1*Z*T*X0Y0D3*");
        for (int i = 0; i < 8; i++) {
            Check.due("attribute(1, " + i + ")", 'a' + i, x.attribute(1, i));
        }
        Check.due("attribute(0, 0)", ImageTexts.NONE, x.attribute(0, 0));
        Check.due("attribute(1, 8)", ImageTexts.NONE, x.attribute(1, 8));
        Check.due("attribute(1, MAX)", ImageTexts.NONE, x.attribute(1, Integer.MAX_VALUE));
        Check.due("attribute(2, 0)", 'z', x.attribute(2, 0));
        Check.due("attribute(2, 1)", ImageTexts.NONE, x.attribute(2, 1));
        Check.due("attribute(3, 0)", ImageTexts.NONE, x.attribute(3, 0));
        Check.throwsOutOfBounds("attribute(4, 0)", () -> x.attribute(4, 0));
        Check.throwsOutOfBounds("attribute(-1, 0)", () -> x.attribute(-1, 0));
        Check.throwsOutOfBounds("attribute(0, -1)", () -> x.attribute(0, -1));
        Check.throwsOutOfBounds("attribute(0, MIN)", () -> x.attribute(0, Integer.MIN_VALUE));
    }
}
