/**
 * From words of memory to triangles on a screen. The numbered promises are in the
 * document DOC.md; README.md says how to use the class.
 */
public final class VertexWork {
    /** There is none. */
    public static final int NONE = -1;

    private static final int WORDS = 4096;
    private static final int ATTRIBUTES = 8;
    private static final int PARTS = 4;
    private static final int TYPES = 4;
    private static final int INDEX_TYPES = 3;
    private static final int MODES = 3;
    private static final int MOST_TRIANGLES = 100000000;
    private static final int CORNERS = 3;
    private static final int VARYINGS = 7;
    private static final int DEEPEST = (1 << 24) - 1;
    private static final int WIDEST = 1024;
    private static final int FARTHEST = 1023;
    private static final long ONE = 65536L;

    /** Each of the two cuts adds one corner to a triangle at most. */
    private static final int MOST_CORNERS = CORNERS + 2;

    /** A corner is a row of numbers: its place, which laying turns into X, Y, depth and Q, then its varyings. */
    private static final int X = 0;
    private static final int Y = 1;
    private static final int Z = 2;
    private static final int W = 3;
    private static final int NUMBERS = 4 + 4 * VARYINGS;

    private static final int LIST = 0;
    private static final int STRIP = 1;

    private static final int FRONT = 0;
    private static final int BACK = 1;

    private static final int BY_NEAR = 0;
    private static final int BY_EYE = 1;
    private static final int LEAST_W = 256;

    private final Memory memory;
    private final Attribute[] attributes;
    private final Polygon whole;
    private final Polygon cutOnce;
    private final Polygon made;
    private final Screen screen;
    private int sidesOut;
    private boolean clockIsFront;

    public VertexWork() {
        memory = new Memory();
        attributes = new Attribute[ATTRIBUTES];
        for (int n = 0; n < ATTRIBUTES; n++) {
            attributes[n] = new Attribute();
        }
        whole = new Polygon();
        whole.many = CORNERS;
        cutOnce = new Polygon();
        made = new Polygon();
        screen = new Screen();
    }

    public int word(int place, int v) throws IndexOutOfBoundsException {
        if (!isBelow(place, WORDS)) {
            throw new IndexOutOfBoundsException("no such word");
        }
        return memory.swap(place, v);
    }

    public void attribute(int n, int from, int step, int parts, int type) throws IllegalArgumentException {
        if (!isBelow(n, ATTRIBUTES) || from < 0 || step < 0) {
            throw new IllegalArgumentException("no such attribute, or below 0");
        }
        if (!isBelow(parts, PARTS + 1) || !isBelow(type, TYPES)) {
            throw new IllegalArgumentException("no such parts or type");
        }
        attributes[n].become(from, step, parts, type);
    }

    public int fetch(int n, int i, int k) throws IllegalArgumentException {
        if (!isBelow(n, ATTRIBUTES) || !isBelow(k, PARTS) || i < 0) {
            throw new IllegalArgumentException("no such attribute, part or vertex");
        }
        return attributes[n].read(memory, i, k);
    }

    public int index(int type, int from, int k) throws IllegalArgumentException {
        if (!isBelow(type, INDEX_TYPES) || from < 0 || k < 0) {
            throw new IllegalArgumentException("no such type, or below 0");
        }
        if (type == 0) {
            return memory.at((long) from + k);
        }
        if (type == 1) {
            return memory.half(from, k);
        }
        return memory.octet((long) from + k / 4, k % 4);
    }

    public int triangles(int mode, int many) throws IllegalArgumentException {
        if (!isBelow(mode, MODES) || many < 0) {
            throw new IllegalArgumentException("no such mode, or below 0");
        }
        return mode == LIST ? many / CORNERS : fanOf(many);
    }

    public int corner(int mode, int t, int j) throws IllegalArgumentException {
        if (!isBelow(mode, MODES) || !isBelow(t, MOST_TRIANGLES + 1) || !isBelow(j, CORNERS)) {
            throw new IllegalArgumentException("no such mode, triangle or corner");
        }
        if (mode == LIST) {
            return CORNERS * t + j;
        }
        if (mode == STRIP) {
            return stripCorner(t, j);
        }
        return fanCorner(t, j);
    }

    public void place(int j, int x, int y, int z, int w) throws IllegalArgumentException {
        if (!isBelow(j, CORNERS)) {
            throw new IllegalArgumentException("no such corner");
        }
        putVector(j, X, x, y, z, w);
    }

    public void vary(int j, int n, int x, int y, int z, int w) throws IllegalArgumentException {
        if (!isBelow(j, CORNERS) || !isBelow(n, VARYINGS)) {
            throw new IllegalArgumentException("no such corner or varying");
        }
        putVector(j, 4 + 4 * n, x, y, z, w);
    }

    public void view(int x, int y, int wide, int high, int near, int far) throws IllegalArgumentException {
        if (!isWithin(x, -FARTHEST, FARTHEST) || !isWithin(y, -FARTHEST, FARTHEST)) {
            throw new IllegalArgumentException("too far off");
        }
        if (!isWithin(wide, 1, WIDEST) || !isWithin(high, 1, WIDEST)) {
            throw new IllegalArgumentException("no such size");
        }
        if (!isWithin(near, 0, DEEPEST) || !isWithin(far, 0, DEEPEST)) {
            throw new IllegalArgumentException("no such depth");
        }
        screen.become(x, y, wide, high, near, far);
        made.many = 0;
    }

    public void faces(int out, boolean clock) throws IllegalArgumentException {
        if (!isWithin(out, 0, 3)) {
            throw new IllegalArgumentException("no such sides");
        }
        sidesOut = out;
        clockIsFront = clock;
        made.many = 0;
    }

    public int make() {
        cutOnce.takeInside(whole, BY_NEAR);
        made.takeInside(cutOnce, BY_EYE);
        for (int c = 0; c < made.many; c++) {
            screen.lay(made.rows[c]);
        }
        return fanOf(made.many);
    }

    public int side(int t) throws IndexOutOfBoundsException {
        if (!isBelow(t, fanOf(made.many))) {
            throw new IndexOutOfBoundsException("no such triangle");
        }
        long size = made.sizeOf(t);
        if (size == 0) {
            return NONE;
        }
        int shown = (size > 0) != clockIsFront ? FRONT : BACK;
        return isOut(shown) ? NONE : shown;
    }

    public int got(int t, int j, int what) throws IndexOutOfBoundsException, IllegalArgumentException {
        if (!isBelow(t, fanOf(made.many))) {
            throw new IndexOutOfBoundsException("no such triangle");
        }
        if (!isBelow(j, CORNERS) || !isBelow(what, NUMBERS)) {
            throw new IllegalArgumentException("no such corner or number");
        }
        return made.rows[fanCorner(t, j)][what];
    }

    public long area(int t) throws IndexOutOfBoundsException {
        if (!isBelow(t, fanOf(made.many))) {
            throw new IndexOutOfBoundsException("no such triangle");
        }
        return made.sizeOf(t);
    }

    /** Both callers have looked at j and at where the vector starts in its row. */
    private void putVector(int j, int start, int x, int y, int z, int w) {
        int[] row = whole.rows[j];
        row[start] = x;
        row[start + 1] = y;
        row[start + 2] = z;
        row[start + 3] = w;
        made.many = 0;
    }

    private boolean isOut(int shown) {
        return ((sidesOut >> shown) & 1) != 0;
    }

    private static boolean isBelow(int n, int end) {
        return n >= 0 && n < end;
    }

    private static boolean isWithin(int n, int least, int most) {
        return n >= least && n <= most;
    }

    /** A strip has as many triangles as a fan has. */
    private static int fanOf(int many) {
        return many < CORNERS ? 0 : many - 2;
    }

    private static int fanCorner(int t, int j) {
        return j == 0 ? 0 : t + j;
    }

    /** Every other triangle of a strip would turn the wrong way, so its first two corners change places. */
    private static int stripCorner(int t, int j) {
        boolean isTurned = t % 2 == 1 && j < 2;
        return isTurned ? t + 1 - j : t + j;
    }

    /** The words; what lies outside of them reads as 0. */
    private static final class Memory {
        private final int[] words = new int[WORDS];

        int swap(int where, int v) {
            int was = at(where);
            if (isBelow(where, WORDS)) {
                words[where] = v;
            }
            return was;
        }

        int at(long where) {
            return where >= 0 && where < WORDS ? words[(int) where] : 0;
        }

        /** Half k of those that lie from a word on, without sign. */
        int half(long from, int k) {
            return (at(from + k / 2) >>> (16 * (k % 2))) & 0xffff;
        }

        /** Byte k (0 .. 3) of a word, without sign. */
        int octet(long where, int k) {
            return (at(where) >>> (8 * k)) & 0xff;
        }
    }

    /** Where the parts of a vertex lie, and how they are written there. */
    private static final class Attribute {
        private int from;
        private int step;
        private int parts;
        private int type;

        void become(int newFrom, int newStep, int newParts, int newType) {
            from = newFrom;
            step = newStep;
            parts = newParts;
            type = newType;
        }

        int read(Memory memory, int i, int k) {
            if (k >= parts) {
                return k == PARTS - 1 ? (int) ONE : 0;
            }
            long start = from + (long) i * step;
            switch (type) {
                case 0:
                    return memory.at(start + k);
                case 1:
                    return (65536 * memory.octet(start, k) + 127) / 255;
                case 2:
                    return (short) memory.half(start, k) * 256;
                default:
                    return (byte) memory.octet(start, k) * 65536;
            }
        }
    }

    /** Corners in their order around; its triangles are those of a fan. */
    private static final class Polygon {
        final int[][] rows = new int[MOST_CORNERS][NUMBERS];
        int many;

        /** Becomes what of another one is inside. The new corner between the last and the first one comes last. */
        void takeInside(Polygon from, int plane) {
            many = 0;
            for (int c = 0; c < from.many; c++) {
                int next = c + 1 < from.many ? c + 1 : 0;
                takeEdge(from.rows[c], from.rows[next], plane);
            }
            if (many < CORNERS) {
                many = 0;
            }
        }

        /** The edge's second corner is left to the next edge. */
        private void takeEdge(int[] first, int[] second, int plane) {
            long a = distance(first, plane);
            long b = distance(second, plane);
            if (a >= 0) {
                take(first);
            }
            if (a >= 0 && b < 0) {
                takeBetween(first, second, share(a, b));
            }
            if (a < 0 && b >= 0) {
                takeBetween(second, first, share(b, a));
            }
        }

        private void take(int[] from) {
            if (many >= MOST_CORNERS) {
                return;
            }
            System.arraycopy(from, 0, rows[many], 0, NUMBERS);
            many++;
        }

        /** Going from the inside out, whichever corner comes first, so that neighbours get the same new corner. */
        private void takeBetween(int[] inside, int[] outside, long f) {
            if (many >= MOST_CORNERS) {
                return;
            }
            int[] row = rows[many];
            for (int k = 0; k < NUMBERS; k++) {
                long way = (long) outside[k] - inside[k];
                row[k] = (int) (inside[k] + Math.floorDiv(way * f, ONE));
            }
            many++;
        }

        /** How far along from a (not below 0) to b (below 0) the cut is; the divisor is above 0 for such. */
        private static long share(long a, long b) {
            return Math.floorDiv(ONE * a, Math.max(1L, a - b));
        }

        private static long distance(int[] row, int plane) {
            return plane == BY_NEAR ? (long) row[Z] + row[W] : (long) row[W] - LEAST_W;
        }

        /** The area of triangle t, which the caller has looked at; the corners are laid. */
        long sizeOf(int t) {
            int[] c0 = rows[0];
            int[] c1 = rows[t + 1];
            int[] c2 = rows[t + 2];
            long x1 = (long) c1[X] - c0[X];
            long y1 = (long) c1[Y] - c0[Y];
            long x2 = (long) c2[X] - c0[X];
            long y2 = (long) c2[Y] - c0[Y];
            return x1 * y2 - x2 * y1;
        }
    }

    /** The view. */
    private static final class Screen {
        private int left;
        private int top;
        private int wide = 1;
        private int high = 1;
        private int near;
        private int far = DEEPEST;

        void become(int newLeft, int newTop, int newWide, int newHigh, int newNear, int newFar) {
            left = newLeft;
            top = newTop;
            wide = newWide;
            high = newHigh;
            near = newNear;
            far = newFar;
        }

        /** The cut by EYE leaves no smaller w; the bound keeps the divisor from 0 whatever comes. */
        void lay(int[] row) {
            long w = Math.max(LEAST_W, row[W]);
            row[X] = (int) sixteenths(towards(row[X], w), left, wide);
            row[Y] = (int) sixteenths(towards(row[Y], w), top, high);
            row[Z] = (int) depth(towards(row[Z], w));
            row[W] = (int) Math.max(1L, (1L << 30) / w);
        }

        /** What of -w .. w becomes 0 .. 131072. */
        private static long towards(int v, long w) {
            return Math.floorDiv(v * ONE, w) + ONE;
        }

        private static long sixteenths(long way, int start, int size) {
            long at = 16L * start + Math.floorDiv(way * size, 8192L);
            return Math.max(-16384L, Math.min(16383L, at));
        }

        /** The whole spans go apart from the rest: way times (far - near) can go beyond a long. */
        private long depth(long way) {
            long span = 2 * ONE;
            long deep = (long) far - near;
            long spans = Math.floorDiv(way, span);
            long rest = Math.floorMod(way, span);
            long at = near + spans * deep + Math.floorDiv(rest * deep, span);
            return Math.max(0L, Math.min(DEEPEST, at));
        }
    }
}
