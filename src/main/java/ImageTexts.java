/** Layer images that are read from texts of commands, made by calls, asked for copper and written. */
public final class ImageTexts {
    public static final int NONE = -1;

    private static final int LARGEST = 1000000;
    private static final int FIRST_APERTURE = 10;
    private static final int APERTURES = 20;
    private static final int MACROS = 5;
    private static final int PRIMITIVES = 4;
    private static final int PRIMITIVE_VALUES = 6;
    private static final int OBJECTS = 60;
    private static final int OBJECT_VALUES = 10;
    private static final int FEWEST_CORNERS = 3;
    private static final int CORNERS = 16;
    private static final int LETTERS = 8;
    private static final int COPIES = 10;
    private static final int CHARACTERS = 3000;
    private static final int DIGITS = 7;
    private static final int HABITS = 3;

    private static final int CIRCLE = 0;
    private static final int RECTANGLE = 1;
    private static final int MACRO = 2;
    private static final String SHAPE_LETTERS = "CRM";

    private static final int FLASH = 0;
    private static final int LINE = 1;
    private static final int REGION = 2;

    /** Beyond every object: place, nine ways, a primitive's way and a radius make 12 times LARGEST. */
    private static final long FAR = 20000000L;

    private final Reader reader = new Reader();
    private final Writer writer = new Writer();
    private final int[] habits = new int[HABITS];
    /** What the next object that is made by a call gets, with the corners of the open region. */
    private final Item held = new Item();
    private boolean open = false;
    private Image image = new Image();

    public ImageTexts() {
    }

    public boolean unit(int u) {
        boolean fits = u == '\n' || (u >= ' ' && u <= '~');
        return fits && reader.add((char) u);
    }

    public int read() {
        reader.begin();
        for (int turn = 0; turn < CHARACTERS && reader.hasMore(); turn++) {
            reader.step();
        }
        int wrong = reader.finish();
        if (wrong != NONE) {
            return -1 - wrong;
        }
        Image former = image;
        image = reader.image;
        reader.image = former;
        reader.length = 0;
        habits[0] = reader.feeds;
        habits[1] = reader.zeros;
        habits[2] = reader.ended ? 0 : 1;
        open = false;
        return image.count;
    }

    public int object(int k, int what) throws IndexOutOfBoundsException {
        if (!image.hasItem(k)) {
            throw new IndexOutOfBoundsException("no such object");
        }
        if (what < 0 || what >= OBJECT_VALUES) {
            throw new IndexOutOfBoundsException("no such value of an object");
        }
        return image.items[k].valueOf(what);
    }

    public boolean in(long x, long y) {
        return image.hasCopper(x, y);
    }

    public int odd(int k) throws IndexOutOfBoundsException {
        if (k < 0 || k >= habits.length) {
            throw new IndexOutOfBoundsException("no such habit");
        }
        return habits[k];
    }

    public int aperture(int kind, long a, long b) throws IllegalArgumentException {
        if (!image.allowsShape(kind, a, b)) {
            throw new IllegalArgumentException("no such aperture can be");
        }
        int number = image.nextAperture();
        if (number != NONE) {
            image.defineAperture(number, kind, a, b);
        }
        return number;
    }

    public int macro(int primitive, int k, long v)
            throws IndexOutOfBoundsException, IllegalStateException, IllegalArgumentException {
        if (primitive == NONE) {
            return image.newMacro();
        }
        if (primitive < 0 || primitive >= PRIMITIVES || k < 0 || k >= PRIMITIVE_VALUES) {
            throw new IndexOutOfBoundsException("no such primitive, or value of one");
        }
        if (image.macroCount < 1 || image.macroCount > MACROS) {
            throw new IllegalStateException("there is no macro");
        }
        if (!Primitive.allows(k, v)) {
            throw new IllegalArgumentException("no such value can be");
        }
        Macro latest = image.macros[image.macroCount - 1];
        latest.growTo(primitive + 1);
        latest.primitives[primitive].put(k, v);
        return latest.count;
    }

    public boolean flash(int aperture, long x, long y, boolean dark)
            throws IndexOutOfBoundsException, IllegalStateException, IllegalArgumentException {
        if (!image.isTold(aperture)) {
            throw new IndexOutOfBoundsException("no such aperture");
        }
        if (open) {
            throw new IllegalStateException("a region is open");
        }
        if (!isPlace(x, y)) {
            throw new IllegalArgumentException("no place");
        }
        held.dark = dark;
        held.aperture = aperture;
        held.begin(x, y);
        return image.add(FLASH, held);
    }

    public boolean line(int aperture, long x, long y, long x2, long y2)
            throws IndexOutOfBoundsException, IllegalStateException, IllegalArgumentException {
        if (!image.isTold(aperture)) {
            throw new IndexOutOfBoundsException("no such aperture");
        }
        if (open) {
            throw new IllegalStateException("a region is open");
        }
        if (!isPlace(x, y) || !isPlace(x2, y2)) {
            throw new IllegalArgumentException("no place");
        }
        if (!image.isCircle(aperture)) {
            throw new IllegalArgumentException("the aperture is no circle");
        }
        held.dark = true;
        held.aperture = aperture;
        held.begin(x, y);
        held.end(x2, y2);
        return image.add(LINE, held);
    }

    public boolean region(boolean open) {
        return open ? openRegion() : closeRegion();
    }

    public boolean corner(long x, long y) throws IllegalStateException, IllegalArgumentException {
        if (!open) {
            throw new IllegalStateException("no region is open");
        }
        if (!isPlace(x, y)) {
            throw new IllegalArgumentException("no place");
        }
        return held.ring.add(x, y);
    }

    public int write(int i) throws IndexOutOfBoundsException {
        if (i < 0) {
            throw new IndexOutOfBoundsException("no character is ahead of the first");
        }
        return writer.characterOf(image, i);
    }

    public boolean same(int other) throws IndexOutOfBoundsException {
        if (!image.hasItem(other)) {
            throw new IndexOutOfBoundsException("no such object");
        }
        return image.areAlike(image.count - 1, other);
    }

    public int attribute(int k, int i) throws IndexOutOfBoundsException {
        if (!image.hasItem(k)) {
            throw new IndexOutOfBoundsException("no such object");
        }
        if (i < 0) {
            throw new IndexOutOfBoundsException("no letter is ahead of the first");
        }
        return image.items[k].name.letterAt(i);
    }

    public int repeat(int columns, int rows, long dx, long dy) throws IllegalArgumentException {
        if (!Grid.allows(columns, rows, dx, dy)) {
            throw new IllegalArgumentException("no such repeat can be");
        }
        boolean otherwise = !held.grid.is(columns, rows, dx, dy);
        held.grid.put(columns, rows, dx, dy);
        return otherwise ? 1 : 0;
    }

    public void clear() {
        reader.length = 0;
        open = false;
        held.reset();
        image.reset();
        for (int k = 0; k < habits.length; k++) {
            habits[k] = 0;
        }
    }

    private boolean openRegion() {
        if (open || image.isFull()) {
            return false;
        }
        held.ring.count = 0;
        open = true;
        return true;
    }

    private boolean closeRegion() {
        if (!open || held.ring.count < FEWEST_CORNERS) {
            return false;
        }
        held.dark = true;
        open = !image.add(REGION, held);
        return !open;
    }

    private static boolean isNumber(long v) {
        return v >= -LARGEST && v <= LARGEST;
    }

    private static boolean isPlace(long x, long y) {
        return isNumber(x) && isNumber(y);
    }

    private static boolean isSize(long v) {
        return v >= 1 && v <= LARGEST;
    }

    /** Whether a circle or rectangle has what is off by x, y from its middle. */
    private static boolean shapeHas(int kind, long size, long height, long x, long y) {
        if (kind == CIRCLE) {
            return x * x + y * y <= size * size;
        }
        return 2 * Math.abs(x) <= size && 2 * Math.abs(y) <= height;
    }

    /** Whether a * a <= b * c, for values of 0 .. 2^47, whose products need not fit in a long. */
    private static boolean isSquareAtMost(long a, long b, long c) {
        long square = upperProduct(a, a);
        long bound = upperProduct(b, c);
        if (square != bound) {
            return square < bound;
        }
        return lowerProduct(a, a) <= lowerProduct(b, c);
    }

    /** What is above the 48 lowest bits of a product. */
    private static long upperProduct(long a, long b) {
        long mask = (1L << 24) - 1;
        long lowA = a & mask;
        long lowB = b & mask;
        long highA = a >> 24;
        long highB = b >> 24;
        long middle = highA * lowB + lowA * highB + ((lowA * lowB) >> 24);
        return highA * highB + (middle >> 24);
    }

    /** The 48 lowest bits of a product: wrap-around leaves them right. */
    private static long lowerProduct(long a, long b) {
        return (a * b) & ((1L << 48) - 1);
    }

    /** One circle or rectangle of a macro. */
    private static final class Primitive {
        private int kind = CIRCLE;
        private boolean on = true;
        /** Radius of a circle, width of a rectangle. */
        private int size = 1;
        private int height = 1;
        private int x = 0;
        private int y = 0;

        static boolean allows(int k, long v) {
            if (k == 0 || k == 1) {
                return v == 0 || v == 1;
            }
            return k == 2 || k == 3 ? isSize(v) : isNumber(v);
        }

        void put(int k, long v) {
            switch (k) {
                case 0: kind = (int) v; break;
                case 1: on = v == 1; break;
                case 2: size = (int) v; break;
                case 3: height = (int) v; break;
                case 4: x = (int) v; break;
                case 5: y = (int) v; break;
                default: break;
            }
        }

        void reset() {
            kind = CIRCLE;
            on = true;
            size = 1;
            height = 1;
            x = 0;
            y = 0;
        }

        void copy(Primitive from) {
            kind = from.kind;
            on = from.on;
            size = from.size;
            height = from.height;
            x = from.x;
            y = from.y;
        }

        boolean isLike(Primitive other) {
            // a circle may bear a height that a call gave it, which is no part of its shape
            boolean likeHeight = kind == CIRCLE || height == other.height;
            return kind == other.kind && on == other.on && size == other.size && likeHeight
                    && x == other.x && y == other.y;
        }
    }

    private static final class Macro {
        private final Primitive[] primitives = new Primitive[PRIMITIVES];
        private int count = 0;

        Macro() {
            for (int k = 0; k < primitives.length; k++) {
                primitives[k] = new Primitive();
            }
        }

        void growTo(int size) {
            for (int k = count; k < size && k < primitives.length; k++) {
                primitives[k].reset();
                count = k + 1;
            }
        }

        void copy(Macro from) {
            count = from.count;
            for (int k = 0; k < count && k < primitives.length; k++) {
                primitives[k].copy(from.primitives[k]);
            }
        }

        boolean isLike(Macro other) {
            if (count != other.count) {
                return false;
            }
            for (int k = 0; k < count && k < primitives.length; k++) {
                if (!primitives[k].isLike(other.primitives[k])) {
                    return false;
                }
            }
            return true;
        }

        boolean has(long x, long y) {
            for (int k = Math.min(count, primitives.length) - 1; k >= 0; k--) {
                Primitive part = primitives[k];
                if (shapeHas(part.kind, part.size, part.height, x - part.x, y - part.y)) {
                    return part.on;
                }
            }
            return false;
        }
    }

    private static final class Aperture {
        private boolean told = false;
        private int kind = CIRCLE;
        /** Radius, width, or the macro's number. */
        private int a = 1;
        private int b = 1;
    }

    /** How an object is repeated. */
    private static final class Grid {
        private int columns = 1;
        private int rows = 1;
        private int dx = 0;
        private int dy = 0;

        static boolean allows(int columns, int rows, long dx, long dy) {
            return columns >= 1 && columns <= COPIES && rows >= 1 && rows <= COPIES && isPlace(dx, dy);
        }

        boolean is(int columns, int rows, long dx, long dy) {
            return this.columns == columns && this.rows == rows && this.dx == dx && this.dy == dy;
        }

        boolean isLike(Grid other) {
            return is(other.columns, other.rows, other.dx, other.dy);
        }

        void put(int columns, int rows, long dx, long dy) {
            this.columns = columns;
            this.rows = rows;
            this.dx = (int) dx;
            this.dy = (int) dy;
        }

        void copy(Grid from) {
            put(from.columns, from.rows, from.dx, from.dy);
        }
    }

    /** The letters of an attribute. */
    private static final class Name {
        private final char[] letters = new char[LETTERS];
        private int count = 0;

        boolean add(char letter) {
            if (count >= letters.length) {
                return false;
            }
            letters[count] = letter;
            count++;
            return true;
        }

        int letterAt(int i) {
            return i >= 0 && i < count && i < letters.length ? letters[i] : NONE;
        }

        boolean isLike(Name other) {
            if (count != other.count) {
                return false;
            }
            for (int i = 0; i < count; i++) {
                if (letterAt(i) != other.letterAt(i)) {
                    return false;
                }
            }
            return true;
        }

        void copy(Name from) {
            count = from.count;
            System.arraycopy(from.letters, 0, letters, 0, letters.length);
        }
    }

    /** The corners of a region. */
    private static final class Ring {
        private final int[] xs = new int[CORNERS];
        private final int[] ys = new int[CORNERS];
        private int count = 0;

        boolean add(long x, long y) {
            if (count >= xs.length) {
                return false;
            }
            xs[count] = (int) x;
            ys[count] = (int) y;
            count++;
            return true;
        }

        void copy(Ring from) {
            count = from.count;
            System.arraycopy(from.xs, 0, xs, 0, xs.length);
            System.arraycopy(from.ys, 0, ys, 0, ys.length);
        }

        boolean isLike(Ring other) {
            if (count != other.count) {
                return false;
            }
            for (int k = 0; k < count && k < xs.length; k++) {
                if (xs[k] != other.xs[k] || ys[k] != other.ys[k]) {
                    return false;
                }
            }
            return true;
        }

        boolean has(long x, long y) {
            boolean inside = false;
            int corners = Math.min(count, xs.length);
            for (int k = 0; k < corners; k++) {
                int next = k + 1 < corners ? k + 1 : 0;
                long side = sideOf(k, next, x, y);
                if (side == 0 && isBetween(xs[k], xs[next], x) && isBetween(ys[k], ys[next], y)) {
                    return true;
                }
                boolean rises = ys[k] <= y && ys[next] > y;
                boolean falls = ys[next] <= y && ys[k] > y;
                if ((rises && side > 0) || (falls && side < 0)) {
                    inside = !inside;
                }
            }
            return inside;
        }

        /** Above 0 left of the way from one corner to the next, 0 on its straight line, below 0 right of it. */
        private long sideOf(int k, int next, long x, long y) {
            long wayX = (long) xs[next] - xs[k];
            long wayY = (long) ys[next] - ys[k];
            return wayX * (y - ys[k]) - wayY * (x - xs[k]);
        }

        private static boolean isBetween(long a, long b, long v) {
            return v >= Math.min(a, b) && v <= Math.max(a, b);
        }
    }

    /**
     * An object of the image; or what holds for the next one, its beginning being the place at hand and
     * its aperture the selected one.
     */
    private static final class Item {
        private final Grid grid = new Grid();
        private final Name name = new Name();
        private final Ring ring = new Ring();
        private int kind = FLASH;
        private boolean dark = true;
        private int aperture = NONE;
        private int x = 0;
        private int y = 0;
        private int x2 = NONE;
        private int y2 = NONE;

        void reset() {
            grid.put(1, 1, 0, 0);
            name.count = 0;
            ring.count = 0;
            kind = FLASH;
            dark = true;
            aperture = NONE;
            begin(0, 0);
            end(NONE, NONE);
        }

        void begin(long x, long y) {
            this.x = (int) x;
            this.y = (int) y;
        }

        void end(long x, long y) {
            this.x2 = (int) x;
            this.y2 = (int) y;
        }

        void become(int kind, Item held) {
            this.kind = kind;
            dark = held.dark;
            grid.copy(held.grid);
            name.copy(held.name);
            ring.count = 0;
            aperture = held.aperture;
            begin(held.x, held.y);
            end(NONE, NONE);
            if (kind == LINE) {
                end(held.x2, held.y2);
            } else if (kind == REGION) {
                ring.copy(held.ring);
                aperture = NONE;
                begin(ring.xs[0], ring.ys[0]);
            }
        }

        int valueOf(int what) {
            switch (what) {
                case 0: return kind;
                case 1: return dark ? 1 : 0;
                case 2: return aperture;
                case 3: return x;
                case 4: return y;
                case 5: return x2;
                case 6: return y2;
                case 7: return grid.columns;
                case 8: return grid.rows;
                case 9: return ring.count;
                default: return NONE;
            }
        }

        boolean isLikeButAperture(Item other) {
            return kind == other.kind && dark == other.dark
                    && x == other.x && y == other.y && x2 == other.x2 && y2 == other.y2
                    && grid.isLike(other.grid) && name.isLike(other.name) && ring.isLike(other.ring);
        }

        /** Whether a line so wide has a place: not farther off than the radius, counted exactly. */
        boolean isNear(long radius, long placeX, long placeY) {
            long wayX = (long) x2 - x;
            long wayY = (long) y2 - y;
            long offX = placeX - x;
            long offY = placeY - y;
            long along = offX * wayX + offY * wayY;
            long wholeWay = wayX * wayX + wayY * wayY;
            if (along <= 0) {
                return shapeHas(CIRCLE, radius, radius, offX, offY);
            }
            if (along >= wholeWay) {
                return shapeHas(CIRCLE, radius, radius, placeX - x2, placeY - y2);
            }
            return isSquareAtMost(Math.abs(offX * wayY - offY * wayX), radius * radius, wholeWay);
        }
    }

    private static final class Image {
        private final Macro[] macros = new Macro[MACROS];
        private final Aperture[] apertures = new Aperture[APERTURES];
        private final Item[] items = new Item[OBJECTS];
        private int macroCount = 0;
        private int count = 0;

        Image() {
            for (int k = 0; k < macros.length; k++) {
                macros[k] = new Macro();
            }
            for (int k = 0; k < apertures.length; k++) {
                apertures[k] = new Aperture();
            }
            for (int k = 0; k < items.length; k++) {
                items[k] = new Item();
            }
        }

        void reset() {
            macroCount = 0;
            count = 0;
            for (int k = 0; k < apertures.length; k++) {
                apertures[k].told = false;
            }
        }

        boolean hasItem(int k) {
            return k >= 0 && k < count && k < items.length;
        }

        boolean isFull() {
            return count >= items.length;
        }

        boolean add(int kind, Item held) {
            if (isFull()) {
                return false;
            }
            items[count].become(kind, held);
            count++;
            return true;
        }

        int newMacro() {
            if (macroCount >= macros.length) {
                return NONE;
            }
            Macro fresh = macros[macroCount];
            fresh.count = 0;
            fresh.growTo(1);
            macroCount++;
            return macroCount - 1;
        }

        boolean addMacro(int number, Macro draft) {
            if (number < 0 || number >= macros.length || number != macroCount) {
                return false;
            }
            macros[number].copy(draft);
            macroCount++;
            return true;
        }

        boolean isAperture(int number) {
            return number >= FIRST_APERTURE && number < FIRST_APERTURE + apertures.length;
        }

        boolean isTold(int number) {
            return isAperture(number) && apertures[number - FIRST_APERTURE].told;
        }

        boolean isCircle(int number) {
            return isTold(number) && apertures[number - FIRST_APERTURE].kind == CIRCLE;
        }

        int nextAperture() {
            for (int k = 0; k < apertures.length; k++) {
                if (!apertures[k].told) {
                    return FIRST_APERTURE + k;
                }
            }
            return NONE;
        }

        boolean allowsShape(int kind, long a, long b) {
            switch (kind) {
                case CIRCLE: return isSize(a);
                case RECTANGLE: return isSize(a) && isSize(b);
                case MACRO: return a >= 0 && a < macroCount;
                default: return false;
            }
        }

        boolean defineAperture(int number, int kind, long a, long b) {
            if (!isAperture(number) || isTold(number) || !allowsShape(kind, a, b)) {
                return false;
            }
            Aperture fresh = apertures[number - FIRST_APERTURE];
            fresh.told = true;
            fresh.kind = kind;
            fresh.a = (int) a;
            // only a rectangle has a second length
            fresh.b = kind == RECTANGLE ? (int) b : 1;
            return true;
        }

        boolean areAlike(int k, int other) {
            return hasItem(k) && hasItem(other) && items[k].isLikeButAperture(items[other])
                    && areShapesAlike(items[k].aperture, items[other].aperture);
        }

        private boolean areShapesAlike(int number, int other) {
            if (!isTold(number) || !isTold(other)) {
                return number == other;
            }
            Aperture one = apertures[number - FIRST_APERTURE];
            Aperture two = apertures[other - FIRST_APERTURE];
            if (one.kind != two.kind) {
                return false;
            }
            if (one.kind == MACRO && isMacro(one.a) && isMacro(two.a)) {
                return macros[one.a].isLike(macros[two.a]);
            }
            return one.a == two.a && one.b == two.b;
        }

        private boolean isMacro(int number) {
            return number >= 0 && number < macroCount && number < macros.length;
        }

        boolean hasCopper(long x, long y) {
            if (x < -FAR || x > FAR || y < -FAR || y > FAR) {
                return false;
            }
            for (int k = Math.min(count, items.length) - 1; k >= 0; k--) {
                if (hasSomeCopy(items[k], x, y)) {
                    return items[k].dark;
                }
            }
            return false;
        }

        private boolean hasSomeCopy(Item item, long x, long y) {
            Grid grid = item.grid;
            for (int column = 0; column < grid.columns; column++) {
                for (int row = 0; row < grid.rows; row++) {
                    if (hasOnce(item, x - (long) column * grid.dx, y - (long) row * grid.dy)) {
                        return true;
                    }
                }
            }
            return false;
        }

        private boolean hasOnce(Item item, long x, long y) {
            if (item.kind == REGION) {
                return item.ring.has(x, y);
            }
            if (!isTold(item.aperture)) {
                return false;
            }
            Aperture used = apertures[item.aperture - FIRST_APERTURE];
            if (item.kind == LINE) {
                return item.isNear(used.a, x, y);
            }
            if (used.kind == MACRO) {
                return isMacro(used.a) && macros[used.a].has(x - item.x, y - item.y);
            }
            return shapeHas(used.kind, used.a, used.b, x - item.x, y - item.y);
        }
    }

    /** Keeps the text and reads it into an image of its own, so that a wrong text leaves the other one alone. */
    private static final class Reader {
        private static final String OUTER_COMMANDS = "MADXBZPNSTE";
        private static final String REGION_COMMANDS = "XZ";

        private final char[] text = new char[CHARACTERS];
        private final Item held = new Item();
        private final Macro draft = new Macro();
        private Image image = new Image();
        private int length = 0;
        private int place = 0;
        /** Where the command at hand begins. */
        private int start = 0;
        private int wrong = NONE;
        /** By what numbers are multiplied; 0 until F has told it. */
        private int scale = 0;
        private boolean open = false;
        private boolean ended = false;
        private int feeds = 0;
        private int zeros = 0;

        boolean add(char c) {
            if (length >= text.length) {
                return false;
            }
            text[length] = c;
            length++;
            return true;
        }

        void begin() {
            image.reset();
            held.reset();
            place = 0;
            start = 0;
            wrong = NONE;
            scale = 0;
            open = false;
            ended = false;
            feeds = 0;
            zeros = 0;
        }

        boolean hasMore() {
            return wrong == NONE && place < length;
        }

        /** NONE, or the place that is wrong. */
        int finish() {
            if (wrong == NONE && (scale == 0 || open)) {
                wrong = length;
            }
            return wrong;
        }

        /** Reads one line feed or one command. */
        void step() {
            start = place;
            char first = peek();
            if (first != '\n' && !mayBegin(first)) {
                fail();
                return;
            }
            place++;
            switch (first) {
                case '\n': feeds++; break;
                case 'F': readFormat(); break;
                case 'M': readMacro(); break;
                case 'A': readAperture(); break;
                case 'D': readSelection(); break;
                case 'X': readPlace(); break;
                case 'B': readRegionBegin(); break;
                case 'Z': readRegionEnd(); break;
                case 'S': readRepeat(); break;
                case 'T': readAttribute(); break;
                case 'P': held.dark = true; ends(); break;
                case 'N': held.dark = false; ends(); break;
                case 'E': ended = ends(); break;
                default: fail(); break;
            }
        }

        private boolean mayBegin(char first) {
            if (scale == 0) {
                return first == 'F';
            }
            if (ended) {
                return false;
            }
            return (open ? REGION_COMMANDS : OUTER_COMMANDS).indexOf(first) >= 0;
        }

        private void readFormat() {
            int n = amount(false);
            if (!ends()) {
                return;
            }
            if (n > 6) {
                refuse();
                return;
            }
            scale = 1;
            for (int k = n; k < 6; k++) {
                scale *= 10;
            }
        }

        private void readMacro() {
            int number = amount(false);
            boolean sound = true;
            draft.count = 0;
            for (int k = 0; k < PRIMITIVES && peek() == ':'; k++) {
                place++;
                draft.growTo(k + 1);
                sound = readPrimitive(draft.primitives[k]) && sound;
            }
            if (!ends()) {
                return;
            }
            if (!sound || !image.addMacro(number, draft)) {
                refuse();
            }
        }

        private boolean readPrimitive(Primitive part) {
            int kind = SHAPE_LETTERS.indexOf(oneOf("CR"));
            boolean sound = putValue(part, 0, kind);
            sound = putValue(part, 1, amount(false)) && sound;
            take(',');
            sound = putValue(part, 2, scaled(amount(false))) && sound;
            take(',');
            if (kind == RECTANGLE) {
                sound = putValue(part, 3, scaled(amount(false))) && sound;
                take(',');
            }
            sound = putValue(part, 4, scaled(amount(true))) && sound;
            take(',');
            return putValue(part, 5, scaled(amount(true))) && sound;
        }

        private static boolean putValue(Primitive part, int k, long v) {
            if (!Primitive.allows(k, v)) {
                return false;
            }
            part.put(k, v);
            return true;
        }

        private void readAperture() {
            int number = amount(false);
            int kind = SHAPE_LETTERS.indexOf(oneOf(SHAPE_LETTERS));
            int told = amount(false);
            long a = kind == MACRO ? told : scaled(told);
            long b = 1;
            if (kind == RECTANGLE) {
                take(',');
                b = scaled(amount(false));
            }
            if (ends() && !image.defineAperture(number, kind, a, b)) {
                refuse();
            }
        }

        private void readSelection() {
            int number = amount(false);
            if (!ends()) {
                return;
            }
            if (!image.isTold(number)) {
                refuse();
                return;
            }
            held.aperture = number;
        }

        private void readPlace() {
            long x = scaled(amount(true));
            take('Y');
            long y = scaled(amount(true));
            take('D');
            char code = oneOf("123");
            if (!ends()) {
                return;
            }
            if (!isPlace(x, y) || !(open ? addCorner(code, x, y) : draw(code, x, y))) {
                refuse();
                return;
            }
            held.begin(x, y);
        }

        private boolean addCorner(char code, long x, long y) {
            char due = held.ring.count == 0 ? '2' : '1';
            return code == due && held.ring.add(x, y);
        }

        private boolean draw(char code, long x, long y) {
            if (code == '1') {
                held.end(x, y);
                return image.isCircle(held.aperture) && image.add(LINE, held);
            }
            held.begin(x, y);
            return code == '2' || (image.isTold(held.aperture) && image.add(FLASH, held));
        }

        private void readRegionBegin() {
            if (!ends()) {
                return;
            }
            if (image.isFull()) {
                refuse();
                return;
            }
            held.ring.count = 0;
            open = true;
        }

        private void readRegionEnd() {
            if (!ends()) {
                return;
            }
            if (!open || held.ring.count < FEWEST_CORNERS || !image.add(REGION, held)) {
                refuse();
                return;
            }
            open = false;
        }

        private void readRepeat() {
            int columns = amount(false);
            take(',');
            int rows = amount(false);
            take(',');
            long dx = scaled(amount(true));
            take(',');
            long dy = scaled(amount(true));
            if (!ends()) {
                return;
            }
            if (!Grid.allows(columns, rows, dx, dy)) {
                refuse();
                return;
            }
            held.grid.put(columns, rows, dx, dy);
        }

        private void readAttribute() {
            held.name.count = 0;
            for (int k = 0; k < LETTERS && peek() >= 'a' && peek() <= 'z'; k++) {
                held.name.add(peek());
                place++;
            }
            ends();
        }

        /** A WHOLE, or a NUMBER. */
        private int amount(boolean mayBeNegative) {
            boolean negative = mayBeNegative && peek() == '-';
            if (negative) {
                place++;
            }
            char first = peek();
            int digits = 0;
            int value = 0;
            for (int k = 0; k < DIGITS && peek() >= '0' && peek() <= '9'; k++) {
                value = value * 10 + (peek() - '0');
                place++;
                digits++;
            }
            if (digits == 0) {
                fail();
            }
            if (digits > 1 && first == '0') {
                zeros++;
            }
            return negative ? -value : value;
        }

        private long scaled(int value) {
            return (long) value * scale;
        }

        private char oneOf(String wanted) {
            char c = peek();
            if (wanted.indexOf(c) < 0) {
                fail();
            } else {
                place++;
            }
            return c;
        }

        private void take(char wanted) {
            if (peek() == wanted) {
                place++;
            } else {
                fail();
            }
        }

        /** Whether the command is whole: only then what it means is looked at. */
        private boolean ends() {
            take('*');
            return wrong == NONE;
        }

        /** The character at hand; 0, which no text holds, at the end and once something is wrong. */
        private char peek() {
            return wrong == NONE && place < length ? text[place] : 0;
        }

        private void fail() {
            if (wrong == NONE) {
                wrong = place;
            }
        }

        private void refuse() {
            wrong = start;
        }
    }

    /** Goes through an image's text without keeping it, and catches one character on the way. */
    private static final class Writer {
        private final Item held = new Item();
        private int wanted = 0;
        private int count = 0;
        private int found = NONE;

        int characterOf(Image image, int i) {
            wanted = i;
            count = 0;
            found = NONE;
            held.reset();
            put('F');
            put('6');
            put('*');
            for (int k = 0; k < image.macroCount && k < image.macros.length; k++) {
                putMacro(k, image.macros[k]);
            }
            for (int k = 0; k < image.apertures.length; k++) {
                if (image.apertures[k].told) {
                    putAperture(FIRST_APERTURE + k, image.apertures[k]);
                }
            }
            for (int k = 0; k < image.count && k < image.items.length; k++) {
                putChanges(image.items[k]);
                putItem(image.items[k]);
            }
            put('E');
            put('*');
            return found;
        }

        private void putMacro(int number, Macro macro) {
            put('M');
            putNumber(number);
            for (int k = 0; k < macro.count && k < macro.primitives.length; k++) {
                Primitive part = macro.primitives[k];
                put(':');
                putShapeLetter(part.kind);
                put(part.on ? '1' : '0');
                putNext(part.size);
                if (part.kind == RECTANGLE) {
                    putNext(part.height);
                }
                putNext(part.x);
                putNext(part.y);
            }
            put('*');
        }

        private void putAperture(int number, Aperture aperture) {
            put('A');
            putNumber(number);
            putShapeLetter(aperture.kind);
            putNumber(aperture.a);
            if (aperture.kind == RECTANGLE) {
                putNext(aperture.b);
            }
            put('*');
        }

        private void putChanges(Item item) {
            if (item.dark != held.dark) {
                held.dark = item.dark;
                put(item.dark ? 'P' : 'N');
                put('*');
            }
            if (!item.grid.isLike(held.grid)) {
                held.grid.copy(item.grid);
                putGrid(item.grid);
            }
            if (!item.name.isLike(held.name)) {
                held.name.copy(item.name);
                putName(item.name);
            }
            if (item.kind != REGION && item.aperture != held.aperture) {
                held.aperture = item.aperture;
                put('D');
                putNumber(item.aperture);
                put('*');
            }
        }

        private void putGrid(Grid grid) {
            put('S');
            putNumber(grid.columns);
            putNext(grid.rows);
            putNext(grid.dx);
            putNext(grid.dy);
            put('*');
        }

        private void putName(Name name) {
            put('T');
            for (int i = 0; i < name.count && i < name.letters.length; i++) {
                put(name.letters[i]);
            }
            put('*');
        }

        private void putItem(Item item) {
            if (item.kind == REGION) {
                putRing(item.ring);
            } else if (item.kind == LINE) {
                if (held.x != item.x || held.y != item.y) {
                    putPlace(item.x, item.y, '2');
                }
                putPlace(item.x2, item.y2, '1');
            } else {
                putPlace(item.x, item.y, '3');
            }
        }

        private void putRing(Ring ring) {
            put('B');
            put('*');
            for (int k = 0; k < ring.count && k < ring.xs.length; k++) {
                putPlace(ring.xs[k], ring.ys[k], k == 0 ? '2' : '1');
            }
            put('Z');
            put('*');
        }

        private void putPlace(int x, int y, char code) {
            held.begin(x, y);
            put('X');
            putNumber(x);
            put('Y');
            putNumber(y);
            put('D');
            put(code);
            put('*');
        }

        private void putShapeLetter(int kind) {
            put(kind == CIRCLE ? 'C' : kind == RECTANGLE ? 'R' : 'M');
        }

        private void putNext(int value) {
            put(',');
            putNumber(value);
        }

        private void putNumber(int value) {
            if (value < 0) {
                put('-');
            }
            int rest = Math.abs(value);
            for (int power = LARGEST; power > 0; power /= 10) {
                if (rest >= power || power == 1) {
                    put((char) ('0' + rest / power % 10));
                }
            }
        }

        private void put(char c) {
            if (count == wanted) {
                found = c;
            }
            count++;
        }
    }
}
