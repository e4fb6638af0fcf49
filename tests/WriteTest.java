/** Promise 13: write; and that what is written is read as the same image. */
public final class WriteTest {
    private static long seed = 99;

    public static void main(String[] args) {
        places();
        texts();
        byCalls();
        thereAndBack();
        Check.close("WriteTest");
    }

    private static void places() {
        ImageTexts x = new ImageTexts();
        String empty = "F6*E*";
        for (int i = 0; i < empty.length(); i++) {
            Check.due("write(" + i + ")", empty.charAt(i), x.write(i));
        }
        Check.due("write(5)", ImageTexts.NONE, x.write(5));
        Check.due("write(MAX)", ImageTexts.NONE, x.write(Integer.MAX_VALUE));
        Check.throwsOutOfBounds("write(-1)", () -> x.write(-1));
        Check.throwsOutOfBounds("write(MIN)", () -> x.write(Integer.MIN_VALUE));
    }

    private static void written(String want, String text) {
        Check.due("what is written of " + text.replace('\n', '|'), want, Check.written(Check.image(text)));
    }

    private static void texts() {
        written("F6*M0:C1,5,0,-7:R0,2,4,3,0*M1*A10C3*A12M0*A29R4,2*E*",
                "\nF06*A29R4,2*M0:C1,05,0,-7:R0,2,4,3,-0*A12M0*M1*A10C3*\nE*\n");
        written("F6*A10C300*S2,1,500,-700*D10*X-100Y1000000D3*E*", "F4*A10C3*S2,1,5,-7*D10*X-1Y10000D3*");
        // chained lines need no D2; a line that begins elsewhere does
        written("F6*A10C1*D10*X1Y1D1*X2Y2D1*X5Y5D2*X6Y6D1*X7Y7D3*X8Y8D1*E*",
                "F6*A10C1*D10*X0Y0D2*X1Y1D1*X2Y2D1*X9Y9D2*X5Y5D2*X6Y6D1*X7Y7D3*X8Y8D1*X1Y1D2*");
        // a region selects nothing and leaves the place at hand at its last corner
        written("F6*A10C1*N*S2,2,0,0*Tab*B*X1Y0D2*X2Y0D1*X2Y2D1*Z*D10*X3Y3D1*P*S1,1,0,0*T*X3Y3D3*E*",
                "F6*A10C1*D10*N*S2,2,0,0*Tab*B*X1Y0D2*X2Y0D1*X2Y2D1*Z*X3Y3D1*P*T*S1,1,0,0*X3Y3D3*");
        written("F6*A10C1*A11C1*D10*X0Y0D3*D11*X0Y0D3*D10*X0Y0D3*E*",
                "F6*A10C1*A11C1*D10*X0Y0D3*D11*X0Y0D3*D10*D11*D10*X0Y0D3*");
        written("F6*S1,1,3,0*B*X0Y0D2*X1Y0D1*X0Y1D1*Z*E*", "F6*S1,1,3,0*B*X0Y0D2*X1Y0D1*X0Y1D1*Z*S9,9,9,9*Tx*N*");
    }

    private static void byCalls() {
        ImageTexts x = Check.image("F6*A11C4*D11*Tq*N*X1Y1D3*");
        x.aperture(1, 10, 20);
        x.repeat(1, 2, 0, 9);
        x.line(11, 1, 1, 1000000, -1000000);
        x.flash(10, 0, 0, false);
        x.region(true);
        x.corner(5, 5);
        x.corner(6, 5);
        String want = "F6*A10R10,20*A11C4*N*Tq*D11*X1Y1D3*P*S1,2,0,9*T*X1000000Y-1000000D1*N*D10*X0Y0D3*";
        Check.due("an open region is not written", want + "E*", Check.written(x));
        x.corner(5, 6);
        x.region(false);
        Check.due("a closed one is", want + "P*B*X5Y5D2*X6Y5D1*X5Y6D1*Z*E*", Check.written(x));
    }

    private static int next(int below) {
        seed = seed * 6364136223846793005L + 1442695040888963407L;
        return (int) Math.floorMod(seed >> 20, (long) below);
    }

    private static long place() {
        return next(4) == 0 ? next(2000001) - 1000000 : next(9) - 4;
    }

    /** Images by calls, small enough for 512 calls: their texts make the same images. */
    private static void thereAndBack() {
        for (int round = 0; round < 300; round++) {
            ImageTexts x = new ImageTexts();
            for (int k = 0; k < 2; k++) {
                x.macro(ImageTexts.NONE, 0, 0);
                x.macro(next(4), 0, next(2));
                x.macro(next(4), 1, next(2));
                x.macro(next(4), 2 + next(2), 1 + next(9));
                x.macro(next(4), 4 + next(2), place());
            }
            x.aperture(0, 1 + next(9), 0);
            x.aperture(1, 1 + next(9), 1 + next(9));
            x.aperture(2, next(2), 0);
            int objects = next(6);
            for (int k = 0; k < objects; k++) {
                draw(x);
            }
            String text = Check.written(x);
            ImageTexts y = new ImageTexts();
            Check.feed(y, text);
            Check.due("read() of " + text, objects, y.read());
            Check.due("what is written of it", text, Check.written(y));
            for (int k = 0; k < objects; k++) {
                for (int what = 0; what < 10; what++) {
                    Check.due("object(" + k + ", " + what + ") of " + text, x.object(k, what), y.object(k, what));
                }
            }
            for (int k = 0; k < 40; k++) {
                long px = place();
                long py = place();
                Check.due("in(" + px + ", " + py + ") of " + text, x.in(px, py), y.in(px, py));
            }
            Check.due("odd(0)", 0, y.odd(0));
            Check.due("odd(1)", 0, y.odd(1));
            Check.due("odd(2)", 0, y.odd(2));
        }
    }

    private static void draw(ImageTexts x) {
        if (next(3) == 0) {
            x.repeat(1 + next(3), 1 + next(3), place(), place());
        }
        int kind = next(3);
        if (kind == 0) {
            x.flash(10 + next(3), place(), place(), next(3) > 0);
        } else if (kind == 1) {
            x.line(10, place(), place(), place(), place());
        } else {
            x.region(true);
            int corners = 3 + next(3);
            for (int k = 0; k < corners; k++) {
                x.corner(place(), place());
            }
            x.region(false);
        }
    }
}
