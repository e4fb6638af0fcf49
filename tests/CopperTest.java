import java.math.BigInteger;

/** Promise 5: in, at edges that are known and against a slow count with numbers of any size. */
public final class CopperTest {
    private static final long BIG = 1000000;
    private static long seed = 12345;

    public static void main(String[] args) {
        shapes();
        macros();
        lines();
        regions();
        repeats();
        polarity();
        farPlaces();
        linesAgainstBigNumbers();
        edgesThatAreMetExactly();
        regionsAgainstCrossings();
        Check.close("CopperTest");
    }

    private static void in(ImageTexts x, boolean want, long px, long py) {
        Check.due("in(" + px + ", " + py + ")", want, x.in(px, py));
    }

    private static void shapes() {
        ImageTexts x = Check.image("F6*A10C5*A11R5,4*D10*X100Y0D3*D11*X-100Y0D3*");
        in(x, true, 103, 4);
        in(x, true, 95, 0);
        in(x, false, 104, 4);
        in(x, false, 106, 0);
        in(x, true, -98, 2);
        in(x, true, -102, -2);
        in(x, false, -97, 0);
        in(x, false, -103, 0);
        in(x, false, -100, 3);
        in(x, false, 0, 0);
        ImageTexts wide = Check.image("F6*A10C1000000*D10*X1000000Y1000000D3*");
        in(wide, true, 1600000, 1800000);
        in(wide, false, 1600000, 1800001);
        in(wide, true, 0, 1000000);
        in(wide, false, -1, 1000000);
    }

    private static void macros() {
        ImageTexts x = Check.image("F6*M0:C1,5,0,0:R0,2,4,3,0:C1,1,3,0*M1*A10M0*A11M1*D10*X0Y0D3*D11*X0Y0D3*");
        in(x, true, 0, 0);
        in(x, true, -5, 0);
        in(x, true, 3, 0);
        in(x, true, 3, 1);
        in(x, false, 3, 2);
        in(x, true, 2, 0);
        in(x, false, 2, 1);
        in(x, true, 1, 1);
        in(x, false, 6, 0);
        ImageTexts clear = Check.image("F6*A10C9*M0:C0,3,0,0*A11M0*D10*X0Y0D3*N*D11*X0Y0D3*");
        // what is not ON is no part of the flash, so the circle below it shows
        in(clear, true, 0, 0);
    }

    private static void lines() {
        ImageTexts x = Check.image("F6*A10C5*D10*X0Y0D2*X30Y40D1*");
        in(x, true, 30, 45);
        in(x, false, 30, 46);
        in(x, true, -3, -4);
        in(x, false, -4, -4);
        in(x, true, 15 - 4, 20 + 3);
        in(x, true, 15 + 4, 20 - 3);
        in(x, false, 15 + 5, 20 - 3);
        in(x, false, 15 - 4, 20 + 4);
        // 3 * 3 is one above 2 * 2 * 2, the square of the radius by that of the way
        ImageTexts tight = Check.image("F6*A10C2*D10*X1Y1D1*");
        in(tight, false, 2, -1);
        in(tight, false, -1, 2);
        in(tight, true, 1, -1);
        ImageTexts dot = Check.image("F6*A10C5*D10*X7Y7D2*X7Y7D1*");
        in(dot, true, 10, 11);
        in(dot, false, 11, 11);
    }

    private static void regions() {
        ImageTexts bow = Check.image("F6*B*X0Y0D2*X10Y10D1*X10Y0D1*X0Y10D1*Z*");
        in(bow, true, 1, 5);
        in(bow, true, 9, 5);
        in(bow, true, 5, 5);
        in(bow, false, 5, 4);
        in(bow, false, 5, 9);
        in(bow, true, 0, 10);
        in(bow, true, 0, 7);
        in(bow, false, -1, 7);
        ImageTexts twice = Check.image("F6*B*X0Y0D2*X10Y0D1*X10Y10D1*X0Y10D1*X0Y0D1*X10Y0D1*X10Y10D1*X0Y10D1*Z*");
        in(twice, false, 5, 5);
        in(twice, true, 10, 5);
        ImageTexts flat = Check.image("F6*B*X0Y0D2*X10Y0D1*X5Y0D1*Z*");
        in(flat, true, 7, 0);
        in(flat, false, 11, 0);
        in(flat, false, 7, 1);
        ImageTexts point = Check.image("F6*B*X3Y3D2*X3Y3D1*X3Y3D1*Z*");
        in(point, true, 3, 3);
        in(point, false, 2, 3);
    }

    private static void repeats() {
        ImageTexts x = Check.image("F6*A10C1*D10*S3,2,10,-20*X0Y0D3*");
        for (int column = -1; column <= 3; column++) {
            for (int row = -1; row <= 2; row++) {
                in(x, column >= 0 && column < 3 && row >= 0 && row < 2, column * 10, row * -20);
            }
        }
        ImageTexts region = Check.image("F6*S10,10,1000000,1000000*B*X1000000Y1000000D2*X999999Y1000000D1*"
                + "X1000000Y999999D1*Z*");
        in(region, true, 10 * BIG, 10 * BIG);
        in(region, false, 10 * BIG - 1, 10 * BIG - 1);
        in(region, true, 10 * BIG - 1, BIG);
        in(region, false, 11 * BIG, BIG);
    }

    private static void polarity() {
        ImageTexts x = Check.image("F6*A10C9*A11C5*A12C1*D10*X0Y0D3*N*D11*X0Y0D3*P*D12*X0Y0D3*");
        in(x, true, 0, 0);
        in(x, false, 2, 0);
        in(x, false, 5, 0);
        in(x, true, 6, 0);
        in(x, false, 10, 0);
        ImageTexts below = Check.image("F6*A10C9*A11C5*N*D11*X0Y0D3*P*D10*X0Y0D3*");
        in(below, true, 2, 0);
    }

    private static void farPlaces() {
        ImageTexts x = Check.image("F6*M0:C1,1000000,1000000,1000000*A10M0*D10*S10,10,1000000,1000000*"
                + "X1000000Y1000000D3*N*A11C1*D11*X0Y0D3*");
        in(x, true, 12 * BIG, 11 * BIG);
        in(x, false, 12 * BIG + 1, 11 * BIG);
        long[] far = {Long.MIN_VALUE, Long.MIN_VALUE + 1, -(1L << 62), -(1L << 32), 1L << 31, 1L << 32, 1L << 62,
            Long.MAX_VALUE - 1, Long.MAX_VALUE};
        // squares and doubles of these wrap around to little ones
        ImageTexts middle = Check.image("F6*A10C1000000*A11R1000000,1000000*D10*X0Y0D3*D11*X0Y0D3*"
                + "D10*X0Y0D1*B*X-9Y-9D2*X9Y-9D1*X0Y9D1*Z*");
        for (long a : far) {
            in(middle, false, a, 0);
            in(middle, false, 0, a);
            in(x, false, a, 11 * BIG);
            in(x, false, 12 * BIG, a);
            for (long b : far) {
                in(x, false, a, b);
            }
        }
    }

    private static long next(long below) {
        seed = seed * 6364136223846793005L + 1442695040888963407L;
        return Math.floorMod(seed >> 20, below);
    }

    private static long place(long most) {
        return next(2 * most + 1) - most;
    }

    private static BigInteger big(long v) {
        return BigInteger.valueOf(v);
    }

    private static BigInteger dot(long ax, long ay, long bx, long by) {
        return big(ax).multiply(big(bx)).add(big(ay).multiply(big(by)));
    }

    private static boolean near(long[] l, long r, long x, long y) {
        BigInteger along = dot(x - l[0], y - l[1], l[2] - l[0], l[3] - l[1]);
        BigInteger way = dot(l[2] - l[0], l[3] - l[1], l[2] - l[0], l[3] - l[1]);
        BigInteger radius = big(r).multiply(big(r));
        if (along.signum() <= 0) {
            return dot(x - l[0], y - l[1], x - l[0], y - l[1]).compareTo(radius) <= 0;
        }
        if (along.compareTo(way) >= 0) {
            return dot(x - l[2], y - l[3], x - l[2], y - l[3]).compareTo(radius) <= 0;
        }
        BigInteger off = dot(x - l[0], y - l[1], l[3] - l[1], l[0] - l[2]);
        return off.multiply(off).compareTo(radius.multiply(way)) <= 0;
    }

    private static void linesAgainstBigNumbers() {
        for (int round = 0; round < 300; round++) {
            long most = round % 3 == 0 ? 6 : round % 3 == 1 ? 2000 : BIG;
            long[] l = {place(most), place(most), place(most), place(most)};
            long r = 1 + next(most);
            ImageTexts x = new ImageTexts();
            x.aperture(0, r, 0);
            x.line(10, l[0], l[1], l[2], l[3]);
            for (int k = 0; k < 40; k++) {
                long px = place(2 * most);
                long py = place(2 * most);
                in(x, near(l, r, px, py), px, py);
            }
            walkTheEdge(x, l, r);
        }
    }

    /** Places right at both sides of the edge, where a product that lost bits would tell wrong. */
    private static void walkTheEdge(ImageTexts x, long[] l, long r) {
        long mx = l[0] + (l[2] - l[0]) / 3;
        long my = l[1] + (l[3] - l[1]) / 3;
        long low = my;
        long high = my + 10 * BIG;
        while (high - low > 1) {
            long middle = (low + high) / 2;
            if (near(l, r, mx, middle)) {
                low = middle;
            } else {
                high = middle;
            }
        }
        in(x, near(l, r, mx, low), mx, low);
        in(x, near(l, r, mx, high), mx, high);
    }

    /** Lines along and across which whole lengths fall on whole places, so that the products are equal. */
    private static void edgesThatAreMetExactly() {
        for (int m = 600; m < 800; m++) {
            int n = 611 - m / 2;
            long a = Math.abs(m * m - n * n);
            long b = 2L * m * n;
            long c = m * m + n * n;
            long[] l = {-a, -b, a, b};
            ImageTexts x = new ImageTexts();
            x.aperture(0, c, 0);
            x.line(10, l[0], l[1], l[2], l[3]);
            in(x, true, -b, a);
            in(x, true, b, -a);
            for (int k = 0; k < 9; k++) {
                long px = -b + k % 3 - 1;
                long py = a + k / 3 - 1;
                in(x, near(l, c, px, py), px, py);
            }
        }
    }

    /** Counts crossings with a way off that no corner lies on: by a slope too small to meet one. */
    private static boolean crossedOddly(long[][] ring, long x, long y) {
        boolean odd = false;
        for (int k = 0; k < ring.length; k++) {
            long[] a = ring[k];
            long[] b = ring[(k + 1) % ring.length];
            long side = (b[0] - a[0]) * (y - a[1]) - (b[1] - a[1]) * (x - a[0]);
            boolean within = x >= Math.min(a[0], b[0]) && x <= Math.max(a[0], b[0])
                    && y >= Math.min(a[1], b[1]) && y <= Math.max(a[1], b[1]);
            if (side == 0 && within) {
                return true;
            }
            // the way off: from x, y by 1000003, 1 without end
            long alpha = a[0] - x - 1000003L * (a[1] - y);
            long beta = b[0] - x - 1000003L * (b[1] - y);
            if (alpha > 0 != beta > 0) {
                BigInteger part = big(alpha).multiply(big(b[1] - a[1])).negate();
                BigInteger met = big(a[1] - y).multiply(big(beta - alpha)).add(part);
                BigInteger ahead = met.multiply(big(beta - alpha));
                BigInteger partX = big(alpha).multiply(big(b[0] - a[0])).negate();
                BigInteger metX = big(a[0] - x).multiply(big(beta - alpha)).add(partX);
                BigInteger aheadX = metX.multiply(big(beta - alpha));
                odd ^= ahead.signum() > 0 || aheadX.signum() > 0;
            }
        }
        return odd;
    }

    private static void regionsAgainstCrossings() {
        for (int round = 0; round < 400; round++) {
            int corners = 3 + (int) next(14);
            long most = round % 2 == 0 ? 5 : 30;
            long[][] ring = new long[corners][];
            ImageTexts x = new ImageTexts();
            x.region(true);
            for (int k = 0; k < corners; k++) {
                ring[k] = new long[] {place(most), place(most)};
                x.corner(ring[k][0], ring[k][1]);
            }
            x.region(false);
            for (int k = 0; k < 150; k++) {
                long px = place(most + 1);
                long py = place(most + 1);
                in(x, crossedOddly(ring, px, py), px, py);
            }
        }
    }
}
