import java.util.Arrays;

/** Promises 1 and 8 to 15: corners are put, cut, laid and shown, with values worked out by hand. */
public final class MakingTest {
    private static final int MAX = Integer.MAX_VALUE;
    private static final int MIN = Integer.MIN_VALUE;
    private static final int ONE = 65536;
    private static final int DEEPEST = 16777215;
    private static final Due DUE = new Due();

    public static void main(String[] args) {
        newObject();
        placeArguments();
        varyArguments();
        everyVarying();
        viewArguments();
        viewEdges();
        facesArguments();
        whatIsGone();
        whatStays();
        makeAgain();
        whatIsInside();
        reckonedWithoutWrapping();
        cutByNear();
        cutByEye();
        cutByBoth();
        cutOfTheFarthest();
        laidAcross();
        laidInDepth();
        quotient();
        sides();
        areas();
        noSuchTriangle();
        gotArguments();
        DUE.end();
    }

    private static void gets(String name, VertexWork v, int t, int what, int... want) {
        for (int j = 0; j < 3; j++) {
            DUE.is(name + ": got(" + t + ", " + j + ", " + what + ")", v.got(t, j, what), want[j]);
        }
    }

    /** Promise 1. */
    private static void newObject() {
        VertexWork v = new VertexWork();
        DUE.outOfBounds("1: side(0)", () -> v.side(0));
        DUE.outOfBounds("1: area(0)", () -> v.area(0));
        DUE.outOfBounds("1: got(0, 0, 0)", () -> v.got(0, 0, 0));
        DUE.is("1: make()", v.make(), 0);
        for (int j = 0; j < 3; j++) {
            v.place(j, 0, 0, 0, ONE);
            DUE.is("1: make() with corners 0 .. " + j, v.make(), j == 0 ? 1 : j == 1 ? 2 : 1);
        }
        VertexWork s = Shapes.simple();
        DUE.is("1: make()", s.make(), 1);
        gets("1", s, 0, 0, 8, 16, 8);
        gets("1", s, 0, 1, 8, 8, 16);
        gets("1", s, 0, 2, 8388607, 8388607, 8388607);
        for (int what = 4; what < 32; what++) {
            gets("1", s, 0, what, 0, 0, 0);
        }
        DUE.is("1: area(0)", s.area(0), 64);
        DUE.is("1: side(0)", s.side(0), 0);
        s.place(1, 0, ONE, 0, ONE);
        s.place(2, ONE, 0, 0, ONE);
        DUE.is("1: make()", s.make(), 1);
        DUE.is("1: side(0), the other way round", s.side(0), 1);
    }

    /** Promise 8. */
    private static void placeArguments() {
        VertexWork v = Shapes.simple();
        v.make();
        for (int j : new int[] {-1, 3, MIN, MAX}) {
            DUE.illegal("8: place(" + j + ", ..)", () -> {
                v.place(j, 1, 1, 1, 1);
                return 0;
            });
        }
        DUE.is("8: area(0) after wrong calls", v.area(0), 64);
        DUE.is("8: make() after wrong calls", v.make(), 1);
        DUE.is("8: area(0), made again after wrong calls", v.area(0), 64);
    }

    /** Promise 9. */
    private static void varyArguments() {
        VertexWork v = Shapes.simple();
        v.make();
        int[][] wrong = {{-1, 0}, {3, 0}, {MIN, 0}, {MAX, 0}, {0, -1}, {0, 7}, {2, MIN}, {2, MAX}};
        for (int[] a : wrong) {
            DUE.illegal("9: vary" + Arrays.toString(a), () -> {
                v.vary(a[0], a[1], 1, 1, 1, 1);
                return 0;
            });
        }
        DUE.is("9: area(0) after wrong calls", v.area(0), 64);
        v.make();
        for (int what = 4; what < 32; what++) {
            gets("9", v, 0, what, 0, 0, 0);
        }
    }

    private static void everyVarying() {
        VertexWork v = Shapes.simple();
        for (int j = 0; j < 3; j++) {
            for (int n = 0; n < 7; n++) {
                int base = 1000 * j + 10 * n;
                v.vary(j, n, base + 1, -base - 2, base + 3, j == 0 ? MIN : base + 4);
            }
        }
        DUE.is("9: make()", v.make(), 1);
        gets("9", v, 0, 0, 8, 16, 8);
        for (int n = 0; n < 7; n++) {
            int b = 10 * n;
            gets("9", v, 0, 4 + 4 * n, b + 1, b + 1001, b + 2001);
            gets("9", v, 0, 5 + 4 * n, -b - 2, -b - 1002, -b - 2002);
            gets("9", v, 0, 6 + 4 * n, b + 3, b + 1003, b + 2003);
            gets("9", v, 0, 7 + 4 * n, MIN, b + 1004, b + 2004);
        }
    }

    /** Promise 10. */
    private static void viewArguments() {
        VertexWork v = Shapes.simple();
        v.make();
        int[][] wrong = {
            {-1024, 0, 9, 9, 0, 9}, {1024, 0, 9, 9, 0, 9}, {MIN, 0, 9, 9, 0, 9}, {MAX, 0, 9, 9, 0, 9},
            {0, -1024, 9, 9, 0, 9}, {0, 1024, 9, 9, 0, 9}, {0, MIN, 9, 9, 0, 9}, {0, MAX, 9, 9, 0, 9},
            {0, 0, 0, 9, 0, 9}, {0, 0, 1025, 9, 0, 9}, {0, 0, -5, 9, 0, 9}, {0, 0, MAX, 9, 0, 9},
            {0, 0, 9, 0, 0, 9}, {0, 0, 9, 1025, 0, 9}, {0, 0, 9, MIN, 0, 9}, {0, 0, 9, MAX, 0, 9},
            {0, 0, 9, 9, -1, 9}, {0, 0, 9, 9, 1 << 24, 9}, {0, 0, 9, 9, MIN, 9}, {0, 0, 9, 9, MAX, 9},
            {0, 0, 9, 9, 0, -1}, {0, 0, 9, 9, 0, 1 << 24}, {0, 0, 9, 9, 0, MIN}, {0, 0, 9, 9, 0, MAX},
        };
        for (int[] a : wrong) {
            DUE.illegal("10: view" + Arrays.toString(a), () -> {
                v.view(a[0], a[1], a[2], a[3], a[4], a[5]);
                return 0;
            });
        }
        DUE.is("10: area(0) after wrong calls", v.area(0), 64);
        v.make();
        gets("10", v, 0, 0, 8, 16, 8);
        gets("10", v, 0, 2, 8388607, 8388607, 8388607);
    }

    private static void viewEdges() {
        VertexWork v = Shapes.simple();
        v.view(-1023, 1023, 1, 1, 0, 0);
        v.make();
        gets("10", v, 0, 0, -16368 + 8, -16368 + 16, -16368 + 8);
        gets("10", v, 0, 1, 16368 + 8, 16368 + 8, 16383);
        gets("10", v, 0, 2, 0, 0, 0);
        v.view(1023, -1023, 1024, 1024, DEEPEST, DEEPEST);
        v.make();
        gets("10", v, 0, 0, 16383, 16383, 16383);
        gets("10", v, 0, 1, -16368 + 8192, -16368 + 8192, -16368 + 16384);
        gets("10", v, 0, 2, DEEPEST, DEEPEST, DEEPEST);
        v.view(3, 5, 16, 32, 1000, 2000);
        v.make();
        gets("10", v, 0, 0, 48 + 128, 48 + 256, 48 + 128);
        gets("10", v, 0, 1, 80 + 256, 80 + 256, 80 + 512);
        gets("10", v, 0, 2, 1500, 1500, 1500);
        DUE.is("10: area(0)", v.area(0), 128 * 256);
    }

    /** Promise 11. */
    private static void facesArguments() {
        VertexWork v = Shapes.simple();
        v.make();
        for (int out : new int[] {-1, 4, 5, MIN, MAX}) {
            DUE.illegal("11: faces(" + out + ", true)", () -> {
                v.faces(out, true);
                return 0;
            });
        }
        DUE.is("11: side(0) after wrong calls", v.side(0), 0);
        v.make();
        DUE.is("11: side(0), made again", v.side(0), 0);
    }

    private static void isGone(String name, VertexWork v) {
        DUE.outOfBounds(name + ": side(0) when gone", () -> v.side(0));
        DUE.outOfBounds(name + ": area(0) when gone", () -> v.area(0));
        DUE.outOfBounds(name + ": got(0, 0, 0) when gone", () -> v.got(0, 0, 0));
    }

    private static void whatIsGone() {
        VertexWork v = Shapes.simple();
        DUE.is("8: make()", v.make(), 1);
        v.place(0, 0, 0, 0, ONE);
        isGone("8", v);
        DUE.is("9: make()", v.make(), 1);
        v.vary(0, 0, 0, 0, 0, 0);
        isGone("9", v);
        DUE.is("10: make()", v.make(), 1);
        v.view(0, 0, 1, 1, 0, DEEPEST);
        isGone("10", v);
        DUE.is("11: make()", v.make(), 1);
        v.faces(0, false);
        isGone("11", v);
    }

    private static void whatStays() {
        VertexWork v = Shapes.simple();
        v.make();
        v.word(0, 1);
        v.attribute(0, 0, 1, 4, 0);
        v.fetch(0, 0, 0);
        v.index(0, 0, 0);
        v.triangles(0, 3);
        v.corner(0, 1, 1);
        v.side(0);
        v.got(0, 1, 0);
        DUE.is("12: area(0) stays", v.area(0), 64);
        DUE.is("12: side(0) stays", v.side(0), 0);
        DUE.is("12: got(0, 1, 0) stays", v.got(0, 1, 0), 16);
    }

    private static void makeAgain() {
        VertexWork v = Shapes.simple();
        v.place(2, 0, ONE, -200000, ONE);
        for (int again = 0; again < 3; again++) {
            DUE.is("12: make() again", v.make(), 2);
            DUE.is("12: got(0, 2, 1) again", v.got(0, 2, 1), 10);
        }
        v.place(0, 0, 0, -200000, ONE);
        v.place(1, 0, 0, -200000, ONE);
        DUE.is("12: make() of nothing", v.make(), 0);
        isGone("12", v);
    }

    /** What isn't below 0 is inside. */
    private static void whatIsInside() {
        DUE.is("12: w 256", Shapes.spot(0, 0, 0, 256).make(), 1);
        DUE.is("12: w 255", Shapes.spot(0, 0, 0, 255).make(), 0);
        DUE.is("12: z + w 0", Shapes.spot(0, 0, -256, 256).make(), 1);
        DUE.is("12: z + w -1", Shapes.spot(0, 0, -257, 256).make(), 0);
        DUE.is("12: z + w 0, far", Shapes.spot(0, 0, -MAX, MAX).make(), 1);
        DUE.is("12: z + w -1, far", Shapes.spot(0, 0, MIN, MAX).make(), 0);
        DUE.is("12: w 0", Shapes.spot(0, 0, MAX, 0).make(), 0);
        DUE.is("12: w below 0", Shapes.spot(0, 0, MAX, -1).make(), 0);
    }

    private static void reckonedWithoutWrapping() {
        DUE.is("12: z + w beyond an int", Shapes.spot(0, 0, MAX, MAX).make(), 1);
        DUE.is("12: z + w below an int", Shapes.spot(0, 0, MIN, MIN).make(), 0);
        DUE.is("12: w - 256 below an int", Shapes.spot(0, 0, MAX, MIN).make(), 0);
        DUE.is("12: w - 256 below an int, near 0", Shapes.spot(0, 0, MAX, MIN + 1).make(), 0);
    }

    private static VertexWork marked() {
        VertexWork v = Shapes.simple();
        v.view(0, 0, 64, 64, 0, DEEPEST);
        v.vary(0, 0, 0, 100, 0, 0);
        v.vary(1, 0, ONE, 200, 0, 0);
        v.vary(2, 0, 2 * ONE, 300, 0, 0);
        return v;
    }

    /** z -200000 against 0: f is 65536 * 65536 / 200000 = 21474. */
    private static void cutByNear() {
        VertexWork v = marked();
        v.place(0, 0, 0, -200000, ONE);
        DUE.is("12: corner 0 cut off by NEAR", v.make(), 2);
        gets("14", v, 0, 4, 65536 - 21474, 65536, 131072);
        gets("14", v, 1, 4, 65536 - 21474, 131072, 131072 - 42948);
        gets("14", v, 0, 5, 167, 200, 300);
        gets("14", v, 1, 5, 167, 300, 234);
        gets("14", v, 0, 3, 16384, 16384, 16384);
        v.place(2, 0, ONE, -200000, ONE);
        DUE.is("12: corners 0 and 2 cut off by NEAR", v.make(), 1);
        gets("14", v, 0, 4, 65536 - 21474, 65536, 65536 + 21474);
        v.place(0, 0, 0, 0, ONE);
        DUE.is("12: corner 2 cut off by NEAR", v.make(), 2);
        gets("14", v, 0, 4, 0, 65536, 65536 + 21474);
        gets("14", v, 1, 4, 0, 65536 + 21474, 42948);
        v.place(1, ONE, 0, -200000, ONE);
        DUE.is("12: corners 1 and 2 cut off by NEAR", v.make(), 1);
        gets("14", v, 0, 4, 0, 21474, 42948);
        v.place(2, 0, ONE, 0, ONE);
        DUE.is("12: corner 1 cut off by NEAR", v.make(), 2);
        gets("14", v, 0, 4, 0, 21474, 131072 - 21474);
        gets("14", v, 1, 4, 0, 131072 - 21474, 131072);
        v.place(0, 0, 0, -200000, ONE);
        DUE.is("12: corners 0 and 1 cut off by NEAR", v.make(), 1);
        gets("14", v, 0, 4, 131072 - 21474, 131072, 131072 - 42948);
        v.place(2, 0, ONE, -200000, ONE);
        DUE.is("12: all corners cut off by NEAR", v.make(), 0);
    }

    /** w -65536 against 65536: f is 65536 * 65280 / 131072 = 32640. */
    private static void cutByEye() {
        VertexWork v = marked();
        v.place(1, ONE, 0, 200000, -ONE);
        DUE.is("12: corner 1 cut off by EYE", v.make(), 2);
        gets("14", v, 0, 4, 0, 32640, 131072 - 32640);
        gets("14", v, 1, 4, 0, 131072 - 32640, 131072);
        gets("14", v, 0, 3, 16384, 4194304, 4194304);
        v.place(2, 0, ONE, 200000, -ONE);
        DUE.is("12: corners 1 and 2 cut off by EYE", v.make(), 1);
        gets("14", v, 0, 4, 0, 32640, 65280);
        v.place(0, 0, 0, 200000, 255);
        DUE.is("12: all corners cut off by EYE", v.make(), 0);
    }

    /** Corner 2 is cut off by NEAR, then corner 1 by EYE: five corners are left. */
    private static void cutByBoth() {
        VertexWork v = marked();
        v.place(1, ONE, 0, 200000, -ONE);
        v.place(2, 0, ONE, -300000, 165536);
        DUE.is("12: cut by both", v.make(), 3);
        gets("14", v, 0, 4, 0, 32640, 84196);
        gets("14", v, 1, 4, 0, 84196, 98304);
        gets("14", v, 2, 4, 0, 98304, 42948);
        gets("14", v, 0, 3, 16384, 4194304, 4194304);
        gets("14", v, 1, 3, 16384, 4194304, 21474);
        gets("14", v, 1, 2, 8388607, DEEPEST, 0);
        DUE.outOfBounds("13: side(3)", () -> v.side(3));
        v.place(2, 0, ONE, -200000, ONE);
        DUE.is("12: cut by both, two corners by EYE", v.make(), 2);
    }

    /** B less A, and what NEAR is, go beyond an int. */
    private static void cutOfTheFarthest() {
        VertexWork v = Shapes.spot(0, 0, MAX, MAX);
        v.place(1, 0, 0, MIN, MAX);
        v.vary(0, 6, MAX, MIN, 0, 0);
        v.vary(1, 6, MIN, MAX, 0, 0);
        v.vary(2, 6, MAX, MIN, 0, 0);
        DUE.is("12: cut of the farthest", v.make(), 2);
        // f is 65536 * 4294967294 / 4294967295 = 65535
        gets("14", v, 0, 28, MAX, -2147418113, -2147418113);
        gets("14", v, 0, 29, MIN, 2147418111, 2147418111);
    }

    private static void laidAcross() {
        int[][] cases = {
            // x, w, x of the view, wide, X
            {0, ONE, 0, 64, 512}, {-1, ONE, 0, 64, 511}, {1, ONE, 0, 64, 512}, {-ONE, ONE, 0, 64, 0},
            {-ONE - 1, ONE, 0, 64, -1}, {-ONE - 1, ONE, 5, 64, 79}, {-1, 3 * ONE, 0, 1024, 8191},
            {-1, MAX, 0, 1024, 8191}, {1, MAX, 0, 1024, 8192}, {-10, 131079, 0, 1024, 8191},
            {MAX, 256, 0, 1024, 16383}, {MIN, 256, 0, 1024, -16384}, {MAX, 256, -1023, 1, 16383},
            {MIN, 256, 1023, 1, -16384}, {ONE, ONE, 0, 1024, 16383}, {ONE - 4, ONE, 0, 1024, 16383},
            {ONE - 8, ONE, 0, 1024, 16383}, {ONE - 9, ONE, 0, 1024, 16382}, {-ONE - 128, ONE, -1023, 1024, -16384},
            {-ONE - 120, ONE, -1023, 1024, -16383}, {3 * ONE, 7 * ONE, 10, 100, 160 + 1142},
        };
        for (int[] c : cases) {
            VertexWork v = Shapes.spot(c[0], -12345, 0, c[1]);
            v.view(c[2], 7, c[3], 13, 0, 9);
            v.make();
            DUE.is("14: X of x, w, view, wide " + Arrays.toString(c), v.got(0, 0, 0), c[4]);
            v = Shapes.spot(-12345, c[0], 0, c[1]);
            v.view(7, c[2], 13, c[3], 0, 9);
            v.make();
            DUE.is("14: Y of y, w, view, high " + Arrays.toString(c), v.got(0, 0, 1), c[4]);
        }
    }

    private static void laidInDepth() {
        int[][] cases = {
            // z, w, near, far, depth
            {0, ONE, 0, DEEPEST, 8388607}, {-ONE, ONE, 0, DEEPEST, 0}, {ONE, ONE, 0, DEEPEST, DEEPEST},
            {ONE - 1, ONE, 0, DEEPEST, 16777087}, {ONE + 1, ONE, 0, DEEPEST, DEEPEST}, {0, ONE, 100, 0, 50},
            {1, ONE, 100, 0, 49}, {-1, ONE, 100, 0, 50}, {-ONE, ONE, 100, 0, 100}, {ONE, ONE, 100, 0, 0},
            {2 * ONE, ONE, 100, 0, 0}, {2 * ONE, ONE, 100, 200, 250}, {2 * ONE, ONE, 200, 100, 50},
            {MAX, 256, 0, DEEPEST, DEEPEST}, {MAX, 256, DEEPEST, 0, 0}, {MAX, 256, 77, 77, 77},
            {MAX, 256, 5, 6, 5 + 4194304}, {MAX, 256, DEEPEST, DEEPEST - 1, DEEPEST - 4194305},
            {-1, MAX, 0, DEEPEST, 8388479}, {MAX, MAX, 3, 5, 5},
        };
        for (int[] c : cases) {
            VertexWork v = Shapes.spot(0, 0, c[0], c[1]);
            v.view(0, 0, 1, 1, c[2], c[3]);
            v.make();
            DUE.is("14: depth of z, w, near, far " + Arrays.toString(c), v.got(0, 0, 2), c[4]);
        }
    }

    private static void quotient() {
        int[][] cases = {
            {256, 4194304}, {257, 4177983}, {ONE, 16384}, {ONE + 1, 16383}, {1 << 29, 2}, {(1 << 29) + 1, 1},
            {1 << 30, 1}, {(1 << 30) + 1, 1}, {MAX, 1},
        };
        for (int[] c : cases) {
            VertexWork v = Shapes.spot(0, 0, 0, c[0]);
            v.make();
            DUE.is("14: Q of w " + c[0], v.got(0, 0, 3), c[1]);
        }
    }

    /** Promises 11 and 13. */
    private static void sides() {
        for (int out = 0; out < 4; out++) {
            boolean noFront = out == 1 || out == 3;
            boolean noBack = out == 2 || out == 3;
            int front = noFront ? VertexWork.NONE : 0;
            int back = noBack ? VertexWork.NONE : 1;
            VertexWork above = Shapes.simple();
            VertexWork below = Shapes.simple();
            below.place(0, ONE, ONE, 0, ONE);
            below.place(1, ONE, 0, 0, ONE);
            VertexWork flat = Shapes.spot(0, 0, 0, ONE);
            for (int turn = 0; turn < 2; turn++) {
                boolean clock = turn == 1;
                String name = "13: side(0) after faces(" + out + ", " + clock + ")";
                above.faces(out, clock);
                DUE.is("12: make(), left out or not", above.make(), 1);
                DUE.is(name + ", area above 0", above.side(0), clock ? back : front);
                below.faces(out, clock);
                DUE.is("12: make(), left out or not", below.make(), 1);
                DUE.is(name + ", area below 0", below.side(0), clock ? front : back);
                DUE.is("15: area(0), below 0", below.area(0), -64);
                flat.faces(out, clock);
                DUE.is("12: make(), flat", flat.make(), 1);
                DUE.is(name + ", area 0", flat.side(0), VertexWork.NONE);
                DUE.is("15: area(0), flat", flat.area(0), 0);
            }
        }
    }

    /** Promise 15: the greatest and the least area, and those of a triangle that is cut. */
    private static void areas() {
        VertexWork v = new VertexWork();
        v.place(0, MIN, MIN, 0, 256);
        v.place(1, MAX, MIN, 0, 256);
        v.place(2, MIN, MAX, 0, 256);
        v.make();
        DUE.is("15: area(0)", v.area(0), 32767L * 32767L);
        v.place(1, MIN, MAX, 0, 256);
        v.place(2, MAX, MIN, 0, 256);
        v.make();
        DUE.is("15: area(0)", v.area(0), -32767L * 32767L);
        VertexWork cut = Shapes.simple();
        cut.view(0, 0, 64, 64, 0, DEEPEST);
        cut.place(2, 0, ONE, -200000, ONE);
        DUE.is("15: make()", cut.make(), 2);
        // corners (512, 512), (1024, 512), (856, 679), (512, 679)
        DUE.is("15: area(0) when cut", cut.area(0), 512 * 167);
        DUE.is("15: area(1) when cut", cut.area(1), 344 * 167);
    }

    private static void noSuchTriangle() {
        VertexWork v = Shapes.simple();
        v.make();
        for (int t : new int[] {-1, 1, 2, 3, 4, MIN, MAX}) {
            DUE.outOfBounds("13: side(" + t + ")", () -> v.side(t));
            DUE.outOfBounds("14: got(" + t + ", 0, 0)", () -> v.got(t, 0, 0));
            DUE.outOfBounds("15: area(" + t + ")", () -> v.area(t));
        }
        v.place(2, 0, ONE, -200000, ONE);
        v.make();
        for (int t : new int[] {-1, 2, 3, MIN, MAX}) {
            DUE.outOfBounds("13: side(" + t + ") of 2", () -> v.side(t));
            DUE.outOfBounds("14: got(" + t + ", 0, 0) of 2", () -> v.got(t, 0, 0));
            DUE.outOfBounds("15: area(" + t + ") of 2", () -> v.area(t));
        }
    }

    /** Promise 14; that the triangle is missing is told first, as the document tells it first. */
    private static void gotArguments() {
        VertexWork v = Shapes.simple();
        v.make();
        int[][] wrong = {{-1, 0}, {3, 0}, {MIN, 0}, {MAX, 0}, {0, -1}, {0, 32}, {2, MIN}, {2, MAX}, {3, 32}};
        for (int[] a : wrong) {
            DUE.illegal("14: got(0, ..)" + Arrays.toString(a), () -> v.got(0, a[0], a[1]));
            DUE.outOfBounds("14: got(1, ..)" + Arrays.toString(a), () -> v.got(1, a[0], a[1]));
        }
        DUE.is("14: got(0, 2, 31)", v.got(0, 2, 31), 0);
    }
}
