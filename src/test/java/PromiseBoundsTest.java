import java.util.Arrays;

/**
 * Each sentence of the promises that names a bound has a method of its own here: the last input that is
 * still right is taken, the first that is wrong is refused, and a refused call changes nothing.
 */
public final class PromiseBoundsTest {
    private static final int MAX = Integer.MAX_VALUE;
    private static final int MIN = Integer.MIN_VALUE;
    private static final int ONE = Shapes.ONE;
    private static final int DEEPEST = (1 << 24) - 1;
    private static final long[] UNTOUCHED = told(worked());
    private static final Due DUE = new Due();

    /** A call of the face whose arguments are numbers. */
    private interface Taking {
        long call(VertexWork v, int[] a);
    }

    public static void main(String[] args) {
        memoryIs0();
        attributesHaveNoParts();
        allCornersAndVaryingsAre0();
        theNewView();
        nothingIsLeftOut();
        nothingIsMade();
        wordBounds();
        attributeBounds();
        fetchBounds();
        indexBounds();
        trianglesBounds();
        cornerBounds();
        placeBounds();
        varyBounds();
        viewBounds();
        facesBounds();
        placeThrowsAway();
        varyThrowsAway();
        viewThrowsAway();
        facesThrowsAway();
        makeCounts();
        makeCountsWhatIsLeftOut();
        madeBounds();
        gotBounds();
        noSuchTriangleComesFirst();
        theLastCall();
        DUE.end();
    }

    /** Something of everything is in it, so that a change anywhere is seen. Front is shown, back left out. */
    private static VertexWork worked() {
        VertexWork v = new VertexWork();
        for (int n = 0; n < 8; n++) {
            v.word(n, 0x01020304 * (n + 1));
            v.attribute(n, n, 1, 1 + n % 4, n % 4);
        }
        v.word(4095, 99);
        v.place(0, 100, 200, 300, ONE);
        v.place(1, ONE, 400, 500, ONE + 1000);
        v.place(2, 600, ONE, 700, ONE + 2000);
        for (int j = 0; j < 3; j++) {
            for (int n = 0; n < 7; n++) {
                int base = 1000 * j + 10 * n;
                v.vary(j, n, base + 1, base + 2, base + 3, base + 4);
            }
        }
        v.view(11, 12, 130, 140, 15, 16000);
        v.faces(2, false);
        v.make();
        return v;
    }

    /** All that an object with one triangle tells of itself: as it stands, and made again. */
    private static long[] told(VertexWork v) {
        long[] all = new long[8 * 4 + 2 * (1 + 2 + 3 * 32) + 9];
        int many = 0;
        for (int n = 0; n < 8; n++) {
            for (int k = 0; k < 4; k++) {
                all[many++] = v.fetch(n, 1, k);
            }
        }
        int triangles = 1;
        for (int round = 0; round < 2; round++) {
            all[many++] = triangles;
            all[many++] = v.side(0);
            all[many++] = v.area(0);
            for (int j = 0; j < 3; j++) {
                for (int what = 0; what < 32; what++) {
                    all[many++] = v.got(0, j, what);
                }
            }
            triangles = v.make();
        }
        for (int n = 0; n < 8; n++) {
            all[many++] = v.word(n, 0);
        }
        all[many++] = v.word(4095, 0);
        return all;
    }

    private static void taken(String name, int[] a, Taking taking) {
        VertexWork v = worked();
        DUE.accepted(name + Arrays.toString(a), () -> taking.call(v, a));
    }

    private static void refused(String name, int[] a, boolean isIndex, Taking taking) {
        VertexWork v = worked();
        String call = name + Arrays.toString(a);
        if (isIndex) {
            DUE.outOfBounds(call, () -> taking.call(v, a));
        } else {
            DUE.illegal(call, () -> taking.call(v, a));
        }
        DUE.accepted(call + ", refused: what was there stays", () -> {
            DUE.is(call + ", refused: changes nothing", Arrays.equals(told(v), UNTOUCHED) ? 1 : 0, 1);
            return 0;
        });
    }

    private static int[] with(int[] right, int p, int value) {
        int[] a = right.clone();
        a[p] = value;
        return a;
    }

    /** Argument p, the others being right, at its least and its most, next beyond these, and farthest beyond. */
    private static void bounds(String name, int[] right, int p, int least, int most, boolean isIndex, Taking taking) {
        taken(name, with(right, p, least), taking);
        taken(name, with(right, p, most), taking);
        if (least > MIN) {
            refused(name, with(right, p, least - 1), isIndex, taking);
            refused(name, with(right, p, MIN), isIndex, taking);
        }
        if (most < MAX) {
            refused(name, with(right, p, most + 1), isIndex, taking);
            refused(name, with(right, p, MAX), isIndex, taking);
        }
    }

    private static void illegalBounds(String name, int[] right, int p, int least, int most, Taking taking) {
        bounds(name, right, p, least, most, false, taking);
    }

    /** Promise 1: "Memory is 0". */
    private static void memoryIs0() {
        VertexWork v = new VertexWork();
        DUE.is("1: word(0, 1)", v.word(0, 1), 0);
        DUE.is("1: word(4095, 1)", v.word(4095, 1), 0);
        VertexWork u = new VertexWork();
        DUE.is("1: word(0, 1) of another object", u.word(0, 1), 0);
    }

    /** Promise 1: "attributes have no parts". */
    private static void attributesHaveNoParts() {
        VertexWork v = new VertexWork();
        for (int k = 0; k < 4; k++) {
            v.word(k, 7);
        }
        for (int n = 0; n < 8; n++) {
            for (int k = 0; k < 4; k++) {
                DUE.is("1: fetch(" + n + ", 0, " + k + ") of a new object", v.fetch(n, 0, k), k == 3 ? ONE : 0);
            }
        }
    }

    /**
     * Promise 1: "all corners and varyings are 0". Of corner j nothing is put; between it, which EYE cuts off,
     * and the one after it, f is 65536 * 65280 / 65536 = 65280, and each number is 65536 - 65280 = 256.
     */
    private static void allCornersAndVaryingsAre0() {
        for (int j = 0; j < 3; j++) {
            VertexWork v = new VertexWork();
            for (int other = 0; other < 3; other++) {
                if (other != j) {
                    v.place(other, ONE, ONE, ONE, ONE);
                    for (int n = 0; n < 7; n++) {
                        v.vary(other, n, ONE, ONE, ONE, ONE);
                    }
                }
            }
            DUE.is("1: make() without corner " + j, v.make(), 2);
            int corner = j == 0 ? 0 : 2;
            int triangle = j == 2 ? 1 : 0;
            DUE.is("1: X next to corner " + j, v.got(triangle, corner, 0), 16);
            DUE.is("1: Y next to corner " + j, v.got(triangle, corner, 1), 16);
            DUE.is("1: depth next to corner " + j, v.got(triangle, corner, 2), DEEPEST);
            DUE.is("1: Q next to corner " + j, v.got(triangle, corner, 3), (1 << 30) / 256);
            for (int what = 4; what < 32; what++) {
                DUE.is("1: got(.., " + what + ") next to corner " + j, v.got(triangle, corner, what), 256);
            }
        }
        VertexWork s = Shapes.simple();
        s.make();
        for (int j = 0; j < 3; j++) {
            for (int what = 4; what < 32; what++) {
                DUE.is("1: got(0, " + j + ", " + what + ")", s.got(0, j, what), 0);
            }
        }
        DUE.is("1: make() of a new object", new VertexWork().make(), 0);
    }

    /** Promise 1: "the view is (0, 0), 1 wide and high, depths 0 and 2^24 - 1". */
    private static void theNewView() {
        VertexWork least = Shapes.spot(-ONE, -ONE, -ONE, ONE);
        VertexWork most = Shapes.spot(ONE, ONE, ONE, ONE);
        least.make();
        most.make();
        DUE.is("1: least X", least.got(0, 0, 0), 0);
        DUE.is("1: least Y", least.got(0, 0, 1), 0);
        DUE.is("1: least depth", least.got(0, 0, 2), 0);
        DUE.is("1: most X", most.got(0, 0, 0), 16);
        DUE.is("1: most Y", most.got(0, 0, 1), 16);
        DUE.is("1: most depth", most.got(0, 0, 2), DEEPEST);
        VertexWork middle = Shapes.spot(0, 0, 0, ONE);
        middle.make();
        DUE.is("1: middle X", middle.got(0, 0, 0), 8);
        DUE.is("1: middle Y", middle.got(0, 0, 1), 8);
        DUE.is("1: middle depth, half of 2^24 - 1", middle.got(0, 0, 2), 8388607);
    }

    /** Promise 1: "nothing is left out"; the clock does not turn front either. */
    private static void nothingIsLeftOut() {
        VertexWork v = Shapes.simple();
        v.make();
        DUE.is("1: side(0), area above 0", v.side(0), 0);
        v.place(1, 0, ONE, 0, ONE);
        v.place(2, ONE, 0, 0, ONE);
        v.make();
        DUE.is("1: side(0), area below 0", v.side(0), 1);
    }

    private static void isGone(String name, VertexWork v) {
        DUE.outOfBounds(name + ": side(0) when nothing is made", () -> v.side(0));
        DUE.outOfBounds(name + ": got(0, 0, 0) when nothing is made", () -> v.got(0, 0, 0));
        DUE.outOfBounds(name + ": area(0) when nothing is made", () -> v.area(0));
    }

    private static void nothingIsMade() {
        isGone("1", new VertexWork());
        isGone("1", Shapes.simple());
    }

    /** Promise 2: "IndexOutOfBoundsException if there is none such." */
    private static void wordBounds() {
        bounds("2: word", new int[] {0, 5}, 0, 0, 4095, true, (v, a) -> v.word(a[0], a[1]));
        VertexWork v = new VertexWork();
        v.word(0, MIN);
        v.word(4095, MAX);
        DUE.is("2: word(0, 1) was", v.word(0, 1), MIN);
        DUE.is("2: word(4095, 1) was", v.word(4095, 1), MAX);
    }

    /** Promise 3: "n is not 0 .. 7, from or step below 0, parts not 0 .. 4, or type not 0 .. 3". */
    private static void attributeBounds() {
        Taking taking = (v, a) -> {
            v.attribute(a[0], a[1], a[2], a[3], a[4]);
            return 0;
        };
        int[] right = {3, 4, 2, 3, 1};
        illegalBounds("3: attribute", right, 0, 0, 7, taking);
        illegalBounds("3: attribute", right, 1, 0, MAX, taking);
        illegalBounds("3: attribute", right, 2, 0, MAX, taking);
        illegalBounds("3: attribute", right, 3, 0, 4, taking);
        illegalBounds("3: attribute", right, 4, 0, 3, taking);
    }

    /** Promise 4: "n is not 0 .. 7, k not 0 .. 3, or i below 0". */
    private static void fetchBounds() {
        Taking taking = (v, a) -> v.fetch(a[0], a[1], a[2]);
        int[] right = {3, 4, 2};
        illegalBounds("4: fetch", right, 0, 0, 7, taking);
        illegalBounds("4: fetch", right, 1, 0, MAX, taking);
        illegalBounds("4: fetch", right, 2, 0, 3, taking);
        VertexWork fresh = new VertexWork();
        DUE.illegal("4: fetch(0, 0, 4), parts 0", () -> fresh.fetch(0, 0, 4));
        DUE.illegal("4: fetch(0, -1, 3), parts 0", () -> fresh.fetch(0, -1, 3));
    }

    /** Promise 5: "from or k is below 0, or type not 0 .. 2". */
    private static void indexBounds() {
        Taking taking = (v, a) -> v.index(a[0], a[1], a[2]);
        illegalBounds("5: index", new int[] {1, 4, 2}, 0, 0, 2, taking);
        for (int type = 0; type < 3; type++) {
            illegalBounds("5: index", new int[] {type, 4, 2}, 1, 0, MAX, taking);
            illegalBounds("5: index", new int[] {type, 4, 2}, 2, 0, MAX, taking);
        }
    }

    /** Promise 6: "mode is not 0 .. 2, or many below 0". */
    private static void trianglesBounds() {
        Taking taking = (v, a) -> v.triangles(a[0], a[1]);
        illegalBounds("6: triangles", new int[] {1, 5}, 0, 0, 2, taking);
        for (int mode = 0; mode < 3; mode++) {
            illegalBounds("6: triangles", new int[] {mode, 5}, 1, 0, MAX, taking);
        }
    }

    /** Promise 7: "mode is not 0 .. 2, t not 0 .. 100000000, or j not so". */
    private static void cornerBounds() {
        Taking taking = (v, a) -> v.corner(a[0], a[1], a[2]);
        illegalBounds("7: corner", new int[] {1, 5, 1}, 0, 0, 2, taking);
        for (int mode = 0; mode < 3; mode++) {
            illegalBounds("7: corner", new int[] {mode, 5, 1}, 1, 0, 100000000, taking);
            illegalBounds("7: corner", new int[] {mode, 5, 1}, 2, 0, 2, taking);
        }
        VertexWork v = new VertexWork();
        int[][] last = {{300000000, 300000001, 300000002}, {100000000, 100000001, 100000002}, {0, 100000001, 100000002}};
        int[] lastOdd = {100000000, 99999999, 100000001};
        for (int j = 0; j < 3; j++) {
            for (int mode = 0; mode < 3; mode++) {
                DUE.is("7: corner(" + mode + ", 0, " + j + ")", v.corner(mode, 0, j), j);
                DUE.is("7: corner(" + mode + ", 100000000, " + j + ")", v.corner(mode, 100000000, j), last[mode][j]);
            }
            DUE.is("7: corner(1, 99999999, " + j + ")", v.corner(1, 99999999, j), lastOdd[j]);
        }
    }

    /** Promise 8: "j is not 0 .. 2". */
    private static void placeBounds() {
        Taking taking = (v, a) -> {
            v.place(a[0], a[1], a[2], a[3], a[4]);
            return 0;
        };
        int[] right = {1, 2, 3, 4, 5};
        illegalBounds("8: place", right, 0, 0, 2, taking);
        for (int p = 1; p < right.length; p++) {
            illegalBounds("8: place", right, p, MIN, MAX, taking);
        }
    }

    /** Promise 9: "Varying n (0 .. 6) of corner j. IllegalArgumentException if there is none such." */
    private static void varyBounds() {
        Taking taking = (v, a) -> {
            v.vary(a[0], a[1], a[2], a[3], a[4], a[5]);
            return 0;
        };
        int[] right = {1, 2, 3, 4, 5, 6};
        illegalBounds("9: vary", right, 0, 0, 2, taking);
        illegalBounds("9: vary", right, 1, 0, 6, taking);
        for (int p = 2; p < right.length; p++) {
            illegalBounds("9: vary", right, p, MIN, MAX, taking);
        }
    }

    /** Promise 10: "x or y is not -1023 .. 1023, wide or high not 1 .. 1024, or a depth not 0 .. 2^24 - 1". */
    private static void viewBounds() {
        Taking taking = (v, a) -> {
            v.view(a[0], a[1], a[2], a[3], a[4], a[5]);
            return 0;
        };
        int[] right = {1, 2, 3, 4, 5, 6};
        illegalBounds("10: view", right, 0, -1023, 1023, taking);
        illegalBounds("10: view", right, 1, -1023, 1023, taking);
        illegalBounds("10: view", right, 2, 1, 1024, taking);
        illegalBounds("10: view", right, 3, 1, 1024, taking);
        illegalBounds("10: view", right, 4, 0, DEEPEST, taking);
        illegalBounds("10: view", right, 5, 0, DEEPEST, taking);
        taken("10: view", new int[] {1, 2, 3, 4, 7, 7}, taking);
        taken("10: view", new int[] {1, 2, 3, 4, DEEPEST, 0}, taking);
    }

    /** Promise 11: "0 none, 1 front, 2 back, 3 both .. IllegalArgumentException for another number". */
    private static void facesBounds() {
        for (boolean clock : new boolean[] {false, true}) {
            illegalBounds("11: faces " + clock, new int[] {1}, 0, 0, 3, (v, a) -> {
                v.faces(a[0], clock);
                return 0;
            });
        }
    }

    private static void makeAndSee(String name, VertexWork v) {
        DUE.is(name + ": make()", v.make(), 1);
        DUE.accepted(name + ": side(0)", () -> v.side(0));
        DUE.accepted(name + ": got(0, 2, 31)", () -> v.got(0, 2, 31));
        DUE.accepted(name + ": area(0)", () -> v.area(0));
    }

    /** Promise 8: "What was made is gone", though the place is what it was. */
    private static void placeThrowsAway() {
        VertexWork v = Shapes.spot(1, 2, 3, ONE);
        for (int j = 0; j < 3; j++) {
            makeAndSee("8", v);
            v.place(j, 1, 2, 3, ONE);
            isGone("8: after place(" + j + ", ..)", v);
        }
        makeAndSee("8", v);
    }

    /** Promise 9: "What was made is gone". */
    private static void varyThrowsAway() {
        VertexWork v = Shapes.spot(1, 2, 3, ONE);
        for (int j = 0; j < 3; j++) {
            for (int n = 0; n < 7; n++) {
                makeAndSee("9", v);
                v.vary(j, n, 0, 0, 0, 0);
                isGone("9: after vary(" + j + ", " + n + ", ..)", v);
            }
        }
        makeAndSee("9", v);
    }

    /** Promise 10: "What was made is gone". */
    private static void viewThrowsAway() {
        VertexWork v = Shapes.spot(1, 2, 3, ONE);
        makeAndSee("10", v);
        v.view(0, 0, 1, 1, 0, DEEPEST);
        isGone("10: after view", v);
        makeAndSee("10", v);
    }

    /** Promise 11: "What was made is gone". */
    private static void facesThrowsAway() {
        VertexWork v = Shapes.spot(1, 2, 3, ONE);
        for (int out = 0; out < 4; out++) {
            for (boolean clock : new boolean[] {false, true}) {
                makeAndSee("11", v);
                v.faces(out, clock);
                isGone("11: after faces(" + out + ", " + clock + ")", v);
            }
        }
        makeAndSee("11", v);
    }

    /** A triangle that becomes many (0 .. 3): for 3, corner 2 is cut off by NEAR, then corner 1 by EYE. */
    private static VertexWork becoming(int many) {
        VertexWork v = Shapes.simple();
        if (many == 0) {
            return Shapes.spot(0, 0, 0, 0);
        }
        if (many == 2) {
            v.place(2, 0, ONE, -200000, ONE);
        }
        if (many == 3) {
            v.place(1, ONE, 0, 200000, -ONE);
            v.place(2, 0, ONE, -300000, 165536);
        }
        return v;
    }

    /** Promise 12: "how many triangles there are of it (0 .. 3)". */
    private static void makeCounts() {
        for (int many = 0; many <= 3; many++) {
            VertexWork v = becoming(many);
            DUE.is("12: make() of " + many, v.make(), many);
            DUE.is("12: make() of " + many + " again", v.make(), many);
        }
    }

    /** Promise 12: "those that are left out counted". */
    private static void makeCountsWhatIsLeftOut() {
        for (int many = 1; many <= 3; many++) {
            VertexWork v = becoming(many);
            v.faces(3, false);
            DUE.is("12: make() of " + many + " left out", v.make(), many);
            for (int t = 0; t < many; t++) {
                DUE.is("12: side(" + t + ") of " + many + " left out", v.side(t), VertexWork.NONE);
            }
        }
        VertexWork flat = Shapes.spot(0, 0, 0, ONE);
        DUE.is("12: make() of area 0", flat.make(), 1);
        DUE.is("12: side(0) of area 0", flat.side(0), VertexWork.NONE);
    }

    /** Promises 13, 14 and 15: "IndexOutOfBoundsException if there is none such", or "if there is no such triangle". */
    private static void madeBounds() {
        for (int many = 0; many <= 3; many++) {
            VertexWork v = becoming(many);
            v.make();
            String of = " of " + many;
            for (int t = 0; t < many; t++) {
                int right = t;
                DUE.accepted("13: side(" + t + ")" + of, () -> v.side(right));
                DUE.accepted("14: got(" + t + ", 0, 0)" + of, () -> v.got(right, 0, 0));
                DUE.accepted("15: area(" + t + ")" + of, () -> v.area(right));
            }
            for (int wrong : new int[] {-1, many, many + 1, many + 2, MIN, MAX - 1, MAX}) {
                DUE.outOfBounds("13: side(" + wrong + ")" + of, () -> v.side(wrong));
                DUE.outOfBounds("14: got(" + wrong + ", 0, 0)" + of, () -> v.got(wrong, 0, 0));
                DUE.outOfBounds("15: area(" + wrong + ")" + of, () -> v.area(wrong));
            }
        }
    }

    /** Promise 14: "IllegalArgumentException if j is not 0 .. 2, or what not 0 .. 31". */
    private static void gotBounds() {
        Taking taking = (v, a) -> v.got(a[0], a[1], a[2]);
        illegalBounds("14: got", new int[] {0, 1, 5}, 1, 0, 2, taking);
        illegalBounds("14: got", new int[] {0, 1, 5}, 2, 0, 31, taking);
        bounds("14: got", new int[] {0, 1, 5}, 0, 0, 0, true, taking);
        VertexWork three = becoming(3);
        three.make();
        DUE.accepted("14: got(2, 2, 31) of 3", () -> three.got(2, 2, 31));
        DUE.illegal("14: got(2, 3, 31) of 3", () -> three.got(2, 3, 31));
        DUE.illegal("14: got(2, 2, 32) of 3", () -> three.got(2, 2, 32));
    }

    /** Promise 14 tells the missing triangle first; where j or what is wrong too, that is read as the one that counts. */
    private static void noSuchTriangleComesFirst() {
        VertexWork v = Shapes.simple();
        DUE.outOfBounds("14: got(0, 3, 32), nothing made", () -> v.got(0, 3, 32));
        v.make();
        DUE.outOfBounds("14: got(1, 3, 0)", () -> v.got(1, 3, 0));
        DUE.outOfBounds("14: got(-1, 0, 32)", () -> v.got(-1, 0, 32));
    }

    /** "An object is used for at most 512 calls": the 512th still answers. */
    private static void theLastCall() {
        VertexWork v = Shapes.simple();
        for (int call = 4; call < 512; call++) {
            DUE.is("call " + call + ": make()", v.make(), 1);
        }
        DUE.is("call 512: area(0)", v.area(0), 64);
    }
}
