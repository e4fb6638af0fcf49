import java.lang.management.ManagementFactory;

/** No call throws what the document does not name, each ends, few objects are made, and wrong texts stay wrong. */
public final class AnyCallsTest {
    private static final int CALLS = 512;
    private static final long[] EDGES = {0, 1, -1, 2, 3, 5, 9, 10, 11, 16, 29, 30, 60, 1000000, 1000001, -1000000,
        -1000001, Integer.MAX_VALUE, Integer.MIN_VALUE, Long.MAX_VALUE, Long.MIN_VALUE, 1L << 32, 3037000500L};
    private static final String PIECES = "FMADXYBZPNSTE:CR,-*\n0123456789ab ";
    private static final String LONG_TEXT = "\nF6*M0:C1,5,0,0:R0,2,4,3,-1*A10C03*A11R4,2*A12M0*D10*X5Y5D3*\nX9Y5D1*N*"
            + "S2,3,20,-5*Tab*D12*X1Y1D3*T*B*X0Y10D2*X10Y10D1*X10Y20D1*X0Y20D1*Z*P*X7Y7D2*E*\n";
    private static long seed = 7;

    public static void main(String[] args) {
        anyCalls();
        brokenTexts();
        beginningsOfTexts();
        fewObjects();
        Check.close("AnyCallsTest");
    }

    private static int next(int below) {
        seed = seed * 6364136223846793005L + 1442695040888963407L;
        return (int) Math.floorMod(seed >> 20, (long) below);
    }

    private static long edge() {
        return next(2) == 0 ? EDGES[next(EDGES.length)] : next(21) - 5;
    }

    private static void anyCalls() {
        for (int round = 0; round < 1500; round++) {
            ImageTexts x = new ImageTexts();
            for (int k = 0; k < CALLS; k++) {
                anyCall(x, next(17));
            }
        }
    }

    private static void anyCall(ImageTexts x, int which) {
        int a = (int) edge();
        int b = (int) edge();
        long c = edge();
        long d = edge();
        String name = "call " + which + " with " + a + ", " + b + ", " + c + ", " + d;
        switch (which) {
            case 0: allowed(name, Check.number(x.unit(PIECES.charAt(next(PIECES.length()))))); break;
            case 1: allowed(name, Check.answer(() -> x.read())); break;
            case 2: allowed(name, Check.answer(() -> x.object(a, b)), Check.OUT_OF_BOUNDS); break;
            case 3: allowed(name, Check.answer(() -> Check.number(x.in(c, d)))); break;
            case 4: allowed(name, Check.answer(() -> x.odd(a)), Check.OUT_OF_BOUNDS); break;
            case 5: allowed(name, Check.answer(() -> x.aperture(a, c, d)), Check.ILLEGAL_ARGUMENT); break;
            case 6: allowed(name, Check.answer(() -> x.macro(a, b, c)),
                    Check.OUT_OF_BOUNDS, Check.ILLEGAL_STATE, Check.ILLEGAL_ARGUMENT); break;
            case 7: allowed(name, Check.answer(() -> Check.number(x.flash(a, c, d, b > 0))),
                    Check.OUT_OF_BOUNDS, Check.ILLEGAL_STATE, Check.ILLEGAL_ARGUMENT); break;
            case 8: allowed(name, Check.answer(() -> Check.number(x.line(a, c, d, b, d))),
                    Check.OUT_OF_BOUNDS, Check.ILLEGAL_STATE, Check.ILLEGAL_ARGUMENT); break;
            case 9: allowed(name, Check.answer(() -> Check.number(x.region(a > 0)))); break;
            case 10: case 16: allowed(name, Check.answer(() -> Check.number(x.corner(c, d))),
                    Check.ILLEGAL_STATE, Check.ILLEGAL_ARGUMENT); break;
            case 11: allowed(name, Check.answer(() -> x.write(a)), Check.OUT_OF_BOUNDS); break;
            case 12: allowed(name, Check.answer(() -> Check.number(x.same(a))), Check.OUT_OF_BOUNDS); break;
            case 13: allowed(name, Check.answer(() -> x.attribute(a, b)), Check.OUT_OF_BOUNDS); break;
            case 14: allowed(name, Check.answer(() -> x.repeat(a, b, c, d)), Check.ILLEGAL_ARGUMENT); break;
            default:
                if (next(40) == 0) {
                    x.clear();
                }
        }
    }

    private static void allowed(String name, long answer, long... exceptions) {
        boolean fine = answer >= -1000000 && answer <= 1000000;
        for (long e : exceptions) {
            fine |= answer == e;
        }
        Check.due("whether the document has the answer of " + name, true, fine);
    }

    private static void brokenTexts() {
        for (int round = 0; round < 20000; round++) {
            StringBuilder text = new StringBuilder(LONG_TEXT);
            for (int k = next(3); k >= 0; k--) {
                int place = next(text.length());
                char piece = PIECES.charAt(next(PIECES.length()));
                if (next(3) == 0) {
                    text.deleteCharAt(place);
                } else if (next(2) == 0) {
                    text.insert(place, piece);
                } else {
                    text.setCharAt(place, piece);
                }
            }
            int read = quietRead(text.toString());
            Check.due("whether read() may answer " + read, true, read >= -1 - text.length() && read <= 60);
            if (read < 0) {
                beginningsAgree(text.toString(), read);
            }
        }
    }

    private static int quietRead(String text) {
        ImageTexts x = new ImageTexts();
        for (int i = 0; i < text.length(); i++) {
            x.unit(text.charAt(i));
        }
        return x.read();
    }

    /** A beginning is a text, ends too soon, or is WRONG where the whole text is: by its own first wrong character. */
    private static void beginningsAgree(String text, int whole) {
        int cut = next(text.length() + 1);
        int read = quietRead(text.substring(0, cut));
        Check.due("whether " + read + " may be answered for the first " + cut + " of " + text + ", all of it " + whole,
                true, read >= 0 || read == -1 - cut || read == whole);
    }

    private static void beginningsOfTexts() {
        for (int cut = 0; cut <= LONG_TEXT.length(); cut++) {
            int read = quietRead(LONG_TEXT.substring(0, cut));
            Check.due("whether the first " + cut + " are a text or end too soon: " + read, true,
                    read >= 0 || read == -1 - cut);
        }
        Check.due("read() of all", 4, quietRead(LONG_TEXT));
    }

    /** Calls make nothing, so a run stays as small as its object was at first. */
    private static void fewObjects() {
        com.sun.management.ThreadMXBean beans = (com.sun.management.ThreadMXBean) ManagementFactory.getThreadMXBean();
        ImageTexts x = new ImageTexts();
        long spent = 0;
        for (int round = 0; round < 2; round++) {
            long before = beans.getCurrentThreadAllocatedBytes();
            for (int k = 0; k < LONG_TEXT.length(); k++) {
                x.unit(LONG_TEXT.charAt(k));
            }
            int sum = x.read() + x.write(100) + x.object(0, 0) + x.attribute(0, 0) + x.macro(1, 1, 1);
            x.in(3, 3);
            x.same(0);
            x.flash(10, 1, 1, true);
            x.line(10, 1, 1, 2, 2);
            x.repeat(2, 2, 2, 2);
            x.clear();
            spent = beans.getCurrentThreadAllocatedBytes() - before;
            Check.due("an answer that is used", true, sum > 0);
        }
        Check.due("whether a round of calls makes next to nothing: " + spent, true, spent < 1000);
    }
}
