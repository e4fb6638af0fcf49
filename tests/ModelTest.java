import java.math.BigInteger;
import java.util.ArrayList;
import java.util.HashMap;
import java.util.List;
import java.util.Map;
import java.util.TreeMap;
import java.util.function.LongSupplier;
import java.util.regex.Matcher;
import java.util.regex.Pattern;

/** Runs of any calls, each answer held against a slow model that is written in another way: by patterns and lists. */
public final class ModelTest {
    private static final int ROUNDS = 1500;
    private static final int CALLS = 512;
    private static final long BIG = 1000000;
    private static final long[] EDGES = {BIG, -BIG, BIG + 1, -BIG - 1, 999999, Long.MAX_VALUE, Long.MIN_VALUE, 1L << 32};
    private static final String PIECES = "FMADXYBZPNSTECR:,-*\n0123456789abQ ";

    private static long seed = 2026;
    private static int round = 0;

    public static void main(String[] args) {
        for (round = 0; round < ROUNDS; round++) {
            run(new ImageTexts(), new Model());
        }
        Check.close("ModelTest");
    }

    private static int next(int below) {
        seed = seed * 6364136223846793005L + 1442695040888963407L;
        return (int) Math.floorMod(seed >> 20, (long) below);
    }

    private static boolean once(int in) {
        return next(in) == 0;
    }

    private static void run(ImageTexts x, Model m) {
        int calls = 0;
        int textEvery = 10 + next(60);
        while (calls < CALLS) {
            String text = once(textEvery) || calls == 0 ? someText() : null;
            if (text == null || calls + text.length() + 2 > CALLS) {
                anyCall(x, m);
                calls++;
                continue;
            }
            for (int i = 0; i < text.length(); i++) {
                m.text.append(text.charAt(i));
                Check.due("unit", true, x.unit(text.charAt(i)));
            }
            alike("read() of " + m.text.toString().replace('\n', '|'), m::read, x::read);
            calls += text.length() + 1;
            if (m.text.length() > 0 && !once(8)) {
                m.clear();
                x.clear();
                calls++;
            }
        }
    }

    private static void alike(String call, LongSupplier model, LongSupplier made) {
        Check.due("run " + round + ": " + call, Check.answer(model), Check.answer(made));
    }

    private static long place() {
        if (once(40)) {
            return EDGES[next(EDGES.length)];
        }
        return once(15) ? next(2000001) - BIG : next(31) - 15;
    }

    private static long size() {
        return once(15) ? place() : once(15) ? 1 + next(1000000) : 1 + next(12);
    }

    private static void anyCall(ImageTexts x, Model m) {
        int k = once(12) ? next(70) - 5 : next(4);
        int i = once(12) ? next(14) - 2 : next(6);
        int number = 10 + (once(10) ? next(24) - 2 : next(5));
        int some = next(once(9) ? 1500 : 120) - 2;
        long a = place();
        long b = place();
        long c = place();
        long d = place();
        boolean yes = !once(3);
        String with = "(" + k + ", " + i + ", " + number + ", " + a + ", " + b + ", " + c + ", " + d + ", " + yes + ")";
        switch (next(16)) {
            case 0: alike("object" + with, () -> m.object(k, some % 11), () -> x.object(k, some % 11)); break;
            case 1: alike("odd" + with, () -> m.odd(i), () -> x.odd(i)); break;
            case 2: anyAperture(x, m, i % 4, size(), size()); break;
            case 3: anyMacro(x, m, k == 3 ? -1 : k, i); break;
            case 4: case 5: alike("flash" + with, () -> m.flash(number, a, b, yes),
                    () -> Check.number(x.flash(number, a, b, yes))); break;
            case 6: alike("line" + with, () -> m.line(number, a, b, c, d),
                    () -> Check.number(x.line(number, a, b, c, d))); break;
            case 7: alike("region" + with, () -> m.region(!yes), () -> Check.number(x.region(!yes))); break;
            case 8: alike("corner" + with, () -> m.corner(a, b), () -> Check.number(x.corner(a, b))); break;
            case 9: alike("write(" + some + ")", () -> m.write(some), () -> x.write(some)); break;
            case 10: alike("same" + with, () -> m.same(k), () -> Check.number(x.same(k))); break;
            case 11: alike("attribute" + with, () -> m.attribute(k, i), () -> x.attribute(k, i)); break;
            case 12: alike("repeat" + with, () -> m.repeat(i, k + 1, a, b), () -> x.repeat(i, k + 1, a, b)); break;
            default: alike("in" + with, () -> m.in(a, b), () -> Check.number(x.in(a, b))); break;
        }
    }

    private static void anyAperture(ImageTexts x, Model m, int kind, long a, long b) {
        long first = kind == 2 ? next(6) : a;
        alike("aperture(" + kind + ", " + first + ", " + b + ")", () -> m.aperture(kind, first, b),
                () -> x.aperture(kind, first, b));
    }

    private static void anyMacro(ImageTexts x, Model m, int primitive, int k) {
        long v = once(15) ? place() : k < 2 ? next(2) : k < 4 ? size() : place();
        alike("macro(" + primitive + ", " + k + ", " + v + ")", () -> m.macro(primitive, k, v),
                () -> x.macro(primitive, k, v));
    }

    /** A text that is often right, and often one character off. */
    private static String someText() {
        if (once(40)) {
            return "F6*A10C1*D10*" + "X0Y0D3*".repeat(58 + next(4));
        }
        StringBuilder text = new StringBuilder(once(9) ? "\n" : "").append('F').append(once(9) ? next(8) : 6).append('*');
        int macros = 0;
        int apertures = 10;
        for (int k = next(4); k > 0; k--) {
            text.append(once(3) ? macro(macros++) : aperture(apertures++, macros));
        }
        text.append(aperture(apertures, 0)).append('D').append(apertures).append('*');
        for (int k = next(12); k > 0; k--) {
            text.append(command(next(8), apertures)).append(once(15) ? "\n" : "");
        }
        text.append(once(3) ? "" : "E*").append(once(15) ? "\n" : "");
        for (int k = next(4); k > 2; k--) {
            int at = next(text.length());
            char piece = PIECES.charAt(next(PIECES.length()));
            text.replace(at, at + next(2), once(3) ? "" : String.valueOf(piece));
        }
        return text.toString();
    }

    private static String number(long v) {
        return once(20) ? v < 0 ? "-0" + -v : "0" + v : Long.toString(v);
    }

    private static String smallPlace() {
        return number(once(40) ? next(2) * 2 * (BIG + next(2)) - BIG : next(31) - 15);
    }

    private static String macro(int macros) {
        StringBuilder text = new StringBuilder("M").append(macros);
        for (int k = next(once(12) ? 6 : 4); k > 0; k--) {
            boolean circle = once(2);
            text.append(circle ? ":C" : ":R").append(number(next(once(30) ? 3 : 2))).append(',').append(number(1 + next(12)));
            text.append(circle ? "" : "," + number(1 + next(12))).append(',').append(smallPlace());
            text.append(',').append(smallPlace());
        }
        return text.append('*').toString();
    }

    private static String command(int what, int latest) {
        switch (what) {
            case 0: return "D" + number(latest - next(once(9) ? 4 : 2)) + "*";
            case 1: case 2: return at(next(once(3) ? 4 : 2) + 2);
            case 3: return at(1 + next(2));
            case 4: return once(2) ? "N*" : "P*";
            case 5: return "S" + number(1 + next(once(12) ? 12 : 3)) + "," + number(1 + next(3)) + "," + smallPlace() + ","
                    + smallPlace() + "*";
            case 6: return "T" + "qwertyuiop".substring(0, once(12) ? next(10) : next(3)) + "*";
            default: return "B*" + at(2) + at(1) + at(1) + (once(2) ? at(1) : "") + (once(3) ? at(1) : "") + "Z*";
        }
    }

    private static String at(int code) {
        return "X" + smallPlace() + "Y" + smallPlace() + "D" + Math.min(code, 3) + "*";
    }

    private static String aperture(int number, int macros) {
        int kind = next(macros == 0 ? 3 : 4);
        String size = number(once(30) ? 0 : 1 + next(12));
        return "A" + number + (kind < 2 ? "C" + size : kind == 2 ? "R" + size + "," + number(1 + next(12))
                : "M" + next(macros)) + "*";
    }

    /** Macros, apertures and objects; an aperture is its kind and two numbers, a primitive its six values. */
    private static final class Picture {
        final List<List<long[]>> macros = new ArrayList<>();
        final TreeMap<Integer, long[]> apertures = new TreeMap<>();
        final List<Thing> things = new ArrayList<>();

        String shape(int number) {
            long[] shape = apertures.get(number);
            if (shape == null) {
                return "";
            }
            return shape[0] == 2 ? "M" + parts((int) shape[1]) : simple(shape);
        }

        String simple(long[] shape) {
            return shape[0] == 0 ? "C" + shape[1] : shape[0] == 1 ? "R" + shape[1] + "," + shape[2] : "M" + shape[1];
        }

        String parts(int macro) {
            StringBuilder text = new StringBuilder();
            for (long[] p : macros.get(macro)) {
                text.append(p[0] == 0 ? ":C" : ":R").append(p[1]).append(',').append(p[2]);
                text.append(p[0] == 0 ? "" : "," + p[3]).append(',').append(p[4]).append(',').append(p[5]);
            }
            return text.toString();
        }

        boolean shapeHas(int number, BigInteger x, BigInteger y) {
            long[] shape = apertures.get(number);
            if (shape[0] != 2) {
                return simpleHas(shape[0], shape[1], shape[2], x, y);
            }
            boolean on = false;
            for (long[] p : macros.get((int) shape[1])) {
                if (simpleHas(p[0], p[2], p[3], x.subtract(big(p[4])), y.subtract(big(p[5])))) {
                    on = p[1] == 1;
                }
            }
            return on;
        }

        String text() {
            StringBuilder text = new StringBuilder("F6*");
            for (int k = 0; k < macros.size(); k++) {
                text.append('M').append(k).append(parts(k)).append('*');
            }
            apertures.forEach((number, shape) -> text.append('A').append(number).append(simple(shape)).append('*'));
            String dark = "P*";
            String grid = "S1,1,0,0*";
            String name = "T*";
            String selected = "";
            String hand = "X0Y0";
            for (Thing t : things) {
                text.append(t.darkness().equals(dark) ? "" : t.darkness());
                text.append(t.gridText().equals(grid) ? "" : t.gridText());
                text.append(t.nameText().equals(name) ? "" : t.nameText());
                text.append(t.kind == 2 || t.selection().equals(selected) ? "" : t.selection());
                dark = t.darkness();
                grid = t.gridText();
                name = t.nameText();
                selected = t.kind == 2 ? selected : t.selection();
                text.append(t.drawing(hand));
                hand = t.at(t.places.size() - 1);
            }
            return text.append("E*").toString();
        }
    }

    private static BigInteger big(long v) {
        return BigInteger.valueOf(v);
    }

    private static BigInteger squares(BigInteger x, BigInteger y) {
        return x.multiply(x).add(y.multiply(y));
    }

    private static boolean simpleHas(long kind, long a, long b, BigInteger x, BigInteger y) {
        if (kind == 0) {
            return squares(x, y).compareTo(big(a).pow(2)) <= 0;
        }
        return x.abs().shiftLeft(1).compareTo(big(a)) <= 0 && y.abs().shiftLeft(1).compareTo(big(b)) <= 0;
    }

    /** An object of the image. */
    private static final class Thing {
        int kind;
        boolean dark = true;
        int aperture = -1;
        List<long[]> places = new ArrayList<>();
        long[] grid = {1, 1, 0, 0};
        String name = "";

        String darkness() {
            return dark ? "P*" : "N*";
        }

        String gridText() {
            return "S" + grid[0] + "," + grid[1] + "," + grid[2] + "," + grid[3] + "*";
        }

        String nameText() {
            return "T" + name + "*";
        }

        String selection() {
            return "D" + aperture + "*";
        }

        String at(int k) {
            return "X" + places.get(k)[0] + "Y" + places.get(k)[1];
        }

        String drawing(String hand) {
            if (kind == 0) {
                return at(0) + "D3*";
            }
            if (kind == 1) {
                return (hand.equals(at(0)) ? "" : at(0) + "D2*") + at(1) + "D1*";
            }
            StringBuilder text = new StringBuilder("B*").append(at(0)).append("D2*");
            for (int k = 1; k < places.size(); k++) {
                text.append(at(k)).append("D1*");
            }
            return text.append("Z*").toString();
        }

        boolean has(Picture picture, long x, long y) {
            for (int column = 0; column < grid[0]; column++) {
                for (int row = 0; row < grid[1]; row++) {
                    if (hasOnce(picture, big(x).subtract(big(column * grid[2])), big(y).subtract(big(row * grid[3])))) {
                        return true;
                    }
                }
            }
            return false;
        }

        private boolean hasOnce(Picture picture, BigInteger x, BigInteger y) {
            if (kind == 2) {
                return ringHas(x, y);
            }
            if (kind == 0) {
                return picture.shapeHas(aperture, x.subtract(big(places.get(0)[0])), y.subtract(big(places.get(0)[1])));
            }
            return lineHas(picture.apertures.get(aperture)[1], x, y);
        }

        /** All is multiplied by the square of the line's length, so that the nearest place of it is whole. */
        private boolean lineHas(long radius, BigInteger x, BigInteger y) {
            BigInteger x1 = big(places.get(0)[0]);
            BigInteger y1 = big(places.get(0)[1]);
            BigInteger wx = big(places.get(1)[0]).subtract(x1);
            BigInteger wy = big(places.get(1)[1]).subtract(y1);
            BigInteger whole = squares(wx, wy).max(BigInteger.ONE);
            BigInteger along = x.subtract(x1).multiply(wx).add(y.subtract(y1).multiply(wy));
            along = along.max(BigInteger.ZERO).min(whole);
            BigInteger offX = x.subtract(x1).multiply(whole).subtract(wx.multiply(along));
            BigInteger offY = y.subtract(y1).multiply(whole).subtract(wy.multiply(along));
            return squares(offX, offY).compareTo(big(radius).multiply(whole).pow(2)) <= 0;
        }

        /** Counts what a way straight up crosses. */
        private boolean ringHas(BigInteger x, BigInteger y) {
            boolean odd = false;
            for (int k = 0; k < places.size(); k++) {
                long[] a = places.get(k);
                long[] b = places.get((k + 1) % places.size());
                long[] left = a[0] <= b[0] ? a : b;
                long[] right = a[0] <= b[0] ? b : a;
                // above 0 when the edge is above the place
                BigInteger above = big(left[1]).subtract(y).multiply(big(right[0] - left[0]))
                        .add(x.subtract(big(left[0])).multiply(big(right[1] - left[1])));
                boolean beyond = x.compareTo(big(left[0])) < 0 || x.compareTo(big(right[0])) > 0
                        || y.compareTo(big(Math.min(a[1], b[1]))) < 0 || y.compareTo(big(Math.max(a[1], b[1]))) > 0;
                if (above.signum() == 0 && !beyond) {
                    return true;
                }
                if (x.compareTo(big(left[0])) >= 0 && x.compareTo(big(right[0])) < 0 && above.signum() > 0) {
                    odd = !odd;
                }
            }
            return odd;
        }
    }

    /** Answers as the document says. */
    private static final class Model {
        final StringBuilder text = new StringBuilder();
        Picture picture = new Picture();
        List<long[]> ring = null;
        long[] grid = {1, 1, 0, 0};
        int[] habits = new int[3];

        void clear() {
            text.setLength(0);
            picture = new Picture();
            ring = null;
            grid = new long[] {1, 1, 0, 0};
            habits = new int[3];
        }

        long read() {
            Text read = new Text(text.toString());
            int wrong = read.wrong();
            if (wrong >= 0) {
                return -1 - wrong;
            }
            text.setLength(0);
            ring = null;
            picture = read.picture;
            habits = new int[] {read.feeds, read.zeros, read.ended ? 0 : 1};
            return picture.things.size();
        }

        Thing thing(int k) {
            if (k < 0 || k >= picture.things.size()) {
                throw new IndexOutOfBoundsException();
            }
            return picture.things.get(k);
        }

        long object(int k, int what) {
            Thing t = thing(k);
            if (what < 0 || what > 9) {
                throw new IndexOutOfBoundsException();
            }
            boolean line = t.kind == 1;
            long[] first = t.places.get(0);
            long[] last = t.places.get(t.places.size() - 1);
            long[] values = {t.kind, t.dark ? 1 : 0, t.aperture, first[0], first[1], line ? last[0] : -1, line ? last[1] : -1,
                t.grid[0], t.grid[1], t.kind == 2 ? t.places.size() : 0};
            return values[what];
        }

        long in(long x, long y) {
            long copper = 0;
            for (Thing t : picture.things) {
                if (t.has(picture, x, y)) {
                    copper = t.dark ? 1 : 0;
                }
            }
            return copper;
        }

        long odd(int k) {
            if (k < 0 || k > 2) {
                throw new IndexOutOfBoundsException();
            }
            return habits[k];
        }

        long aperture(int kind, long a, long b) {
            boolean fits = kind == 0 && isSize(a) || kind == 1 && isSize(a) && isSize(b)
                    || kind == 2 && a >= 0 && a < picture.macros.size();
            if (!fits) {
                throw new IllegalArgumentException();
            }
            for (int number = 10; number < 30; number++) {
                if (!picture.apertures.containsKey(number)) {
                    picture.apertures.put(number, new long[] {kind, a, b});
                    return number;
                }
            }
            return -1;
        }

        long macro(int primitive, int k, long v) {
            if (primitive == -1) {
                if (picture.macros.size() == 5) {
                    return -1;
                }
                List<long[]> fresh = new ArrayList<>();
                fresh.add(new long[] {0, 1, 1, 1, 0, 0});
                picture.macros.add(fresh);
                return picture.macros.size() - 1;
            }
            if (primitive < 0 || primitive > 3 || k < 0 || k > 5) {
                throw new IndexOutOfBoundsException();
            }
            if (picture.macros.isEmpty()) {
                throw new IllegalStateException();
            }
            if (k < 2 ? v != 0 && v != 1 : k < 4 ? !isSize(v) : !isNumber(v)) {
                throw new IllegalArgumentException();
            }
            List<long[]> latest = picture.macros.get(picture.macros.size() - 1);
            while (latest.size() <= primitive) {
                latest.add(new long[] {0, 1, 1, 1, 0, 0});
            }
            latest.get(primitive)[k] = v;
            return latest.size();
        }

        long flash(int aperture, long x, long y, boolean dark) {
            return draw(0, aperture, dark, new long[][] {{x, y}});
        }

        long line(int aperture, long x, long y, long x2, long y2) {
            return draw(1, aperture, true, new long[][] {{x, y}, {x2, y2}});
        }

        private long draw(int kind, int aperture, boolean dark, long[][] places) {
            if (!picture.apertures.containsKey(aperture)) {
                throw new IndexOutOfBoundsException();
            }
            if (ring != null) {
                throw new IllegalStateException();
            }
            for (long[] place : places) {
                if (!isNumber(place[0]) || !isNumber(place[1])) {
                    throw new IllegalArgumentException();
                }
            }
            if (kind == 1 && picture.apertures.get(aperture)[0] != 0) {
                throw new IllegalArgumentException();
            }
            return add(kind, aperture, dark, List.of(places));
        }

        private long add(int kind, int aperture, boolean dark, List<long[]> places) {
            if (picture.things.size() == 60) {
                return 0;
            }
            Thing t = new Thing();
            t.kind = kind;
            t.aperture = aperture;
            t.dark = dark;
            t.places = places;
            t.grid = grid;
            picture.things.add(t);
            return 1;
        }

        long region(boolean open) {
            if (open) {
                if (ring != null || picture.things.size() == 60) {
                    return 0;
                }
                ring = new ArrayList<>();
                return 1;
            }
            if (ring == null || ring.size() < 3) {
                return 0;
            }
            long made = add(2, -1, true, ring);
            ring = null;
            return made;
        }

        long corner(long x, long y) {
            if (ring == null) {
                throw new IllegalStateException();
            }
            if (!isNumber(x) || !isNumber(y)) {
                throw new IllegalArgumentException();
            }
            if (ring.size() == 16) {
                return 0;
            }
            ring.add(new long[] {x, y});
            return 1;
        }

        long write(int i) {
            if (i < 0) {
                throw new IndexOutOfBoundsException();
            }
            String written = picture.text();
            return i < written.length() ? written.charAt(i) : -1;
        }

        long same(int other) {
            Thing a = thing(other);
            Thing b = thing(picture.things.size() - 1);
            return told(a).equals(told(b)) ? 1 : 0;
        }

        private String told(Thing t) {
            return t.kind + t.darkness() + t.gridText() + t.nameText() + picture.shape(t.aperture) + " " + t.drawing("");
        }

        long attribute(int k, int i) {
            String name = thing(k).name;
            if (i < 0) {
                throw new IndexOutOfBoundsException();
            }
            return i < name.length() ? name.charAt(i) : -1;
        }

        long repeat(int columns, int rows, long dx, long dy) {
            if (columns < 1 || columns > 10 || rows < 1 || rows > 10 || !isNumber(dx) || !isNumber(dy)) {
                throw new IllegalArgumentException();
            }
            long[] former = grid;
            grid = new long[] {columns, rows, dx, dy};
            return java.util.Arrays.equals(former, grid) ? 0 : 1;
        }
    }

    private static boolean isNumber(long v) {
        return v >= -BIG && v <= BIG;
    }

    private static boolean isSize(long v) {
        return v >= 1 && v <= BIG;
    }

    /** A text, whose commands have their forms by patterns. */
    private static final class Text {
        private static final Map<Character, Pattern> FORMS = new HashMap<>();
        private static final Pattern AMOUNT = Pattern.compile("-?\\d+");
        private static final Pattern ZERO_AHEAD = Pattern.compile("(?<!\\d)0\\d");

        static {
            String[] forms = {"Fw", "Mw(:Cw,w,n,n|:Rw,w,w,n,n){0,4}", "Aw(Cw|Rw,w|Mw)", "Dw", "XnYnD[123]", "B", "Z", "P",
                "N", "Sw,w,n,n", "T[a-z]{0,8}", "E"};
            for (String form : forms) {
                String pattern = form.replace("[a-z]", "#").replace("w", "\\d{1,7}").replace("n", "-?\\d{1,7}");
                FORMS.put(form.charAt(0), Pattern.compile(pattern.replace("#", "[a-z]") + "\\*"));
            }
        }

        final Picture picture = new Picture();
        int feeds = 0;
        int zeros = 0;
        boolean ended = false;
        private final String text;
        private final List<long[]> corners = new ArrayList<>();
        private final Thing holds = new Thing();
        private long[] hand = {0, 0};
        private long scale = 0;
        private boolean open = false;

        Text(String text) {
            this.text = text;
        }

        /** -1, or the place that is WRONG. */
        int wrong() {
            int place = 0;
            while (place < text.length()) {
                char first = text.charAt(place);
                if (first == '\n') {
                    feeds++;
                    place++;
                    continue;
                }
                String may = ended ? "" : scale == 0 ? "F" : open ? "XZ" : "MADXBZPNSTE";
                if (may.indexOf(first) < 0) {
                    return place;
                }
                int end = place;
                while (end < text.length() && mayGoOn(first, text.substring(place, end + 1))) {
                    end++;
                }
                String command = text.substring(place, end);
                if (!command.endsWith("*")) {
                    return end;
                }
                if (!means(first, command.substring(1, command.length() - 1))) {
                    return place;
                }
                Matcher zero = ZERO_AHEAD.matcher(command);
                while (zero.find()) {
                    zeros++;
                }
                place = end;
            }
            return open || scale == 0 ? text.length() : -1;
        }

        private static boolean mayGoOn(char first, String beginning) {
            Matcher m = FORMS.get(first).matcher(beginning);
            return m.matches() || m.hitEnd();
        }

        private static long[] amounts(String of) {
            List<Long> found = new ArrayList<>();
            Matcher m = AMOUNT.matcher(of);
            while (m.find()) {
                found.add(Long.parseLong(m.group()));
            }
            return found.stream().mapToLong(Long::longValue).toArray();
        }

        private boolean means(char first, String rest) {
            long[] v = amounts(rest);
            switch (first) {
                case 'F': scale = v[0] > 6 ? 0 : (long) Math.pow(10, 6 - v[0]); return v[0] <= 6;
                case 'M': return macro(v[0], rest.split(":"));
                case 'A': return aperture(v[0], rest.replaceAll("\\d|,", "").charAt(0), v);
                case 'D': holds.aperture = (int) v[0]; return picture.apertures.containsKey((int) v[0]);
                case 'X': return place(v[0] * scale, v[1] * scale, v[2]);
                case 'B': open = true; corners.clear(); return picture.things.size() < 60;
                case 'Z': return region();
                case 'P': case 'N': holds.dark = first == 'P'; return true;
                case 'S': holds.grid = new long[] {v[0], v[1], v[2] * scale, v[3] * scale};
                    return v[0] >= 1 && v[0] <= 10 && v[1] >= 1 && v[1] <= 10 && isNumber(holds.grid[2])
                            && isNumber(holds.grid[3]);
                case 'T': holds.name = rest; return true;
                default: ended = true; return true;
            }
        }

        private boolean macro(long number, String[] parts) {
            List<long[]> made = new ArrayList<>();
            boolean fits = number == picture.macros.size() && number < 5;
            for (int k = 1; k < parts.length; k++) {
                long[] v = amounts(parts[k]);
                boolean wide = parts[k].charAt(0) == 'R';
                long[] part = {wide ? 1 : 0, v[0], v[1] * scale, wide ? v[2] * scale : 1, v[v.length - 2] * scale,
                    v[v.length - 1] * scale};
                made.add(part);
                fits &= part[1] <= 1 && isSize(part[2]) && isSize(part[3]) && isNumber(part[4]) && isNumber(part[5]);
            }
            picture.macros.add(made);
            return fits;
        }

        private boolean aperture(long number, char kind, long[] v) {
            boolean fits = number >= 10 && number < 30 && !picture.apertures.containsKey((int) number);
            if (kind == 'M') {
                picture.apertures.put((int) number, new long[] {2, v[1], 1});
                return fits && v[1] < picture.macros.size();
            }
            long high = kind == 'R' ? v[2] * scale : 1;
            picture.apertures.put((int) number, new long[] {kind == 'R' ? 1 : 0, v[1] * scale, high});
            return fits && isSize(v[1] * scale) && isSize(high);
        }

        private boolean place(long x, long y, long code) {
            long[] from = hand;
            hand = new long[] {x, y};
            if (!isNumber(x) || !isNumber(y)) {
                return false;
            }
            if (open) {
                corners.add(hand);
                return code == (corners.size() == 1 ? 2 : 1) && corners.size() <= 16;
            }
            if (code == 2) {
                return true;
            }
            long[] shape = picture.apertures.get(holds.aperture);
            if (shape == null || (code == 1 && shape[0] != 0)) {
                return false;
            }
            return code == 1 ? add(1, holds.aperture, List.of(from, hand)) : add(0, holds.aperture, List.of(hand));
        }

        private boolean region() {
            boolean fits = open && corners.size() >= 3;
            open = false;
            return fits && add(2, -1, new ArrayList<>(corners));
        }

        private boolean add(int kind, int aperture, List<long[]> places) {
            Thing t = new Thing();
            t.kind = kind;
            t.dark = holds.dark;
            t.grid = holds.grid;
            t.name = holds.name;
            t.aperture = aperture;
            t.places = places;
            picture.things.add(t);
            return picture.things.size() <= 60;
        }
    }
}
