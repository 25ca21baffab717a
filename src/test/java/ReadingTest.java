/** Promises 1 to 7: memory, attributes, indices and corners, with values worked out by hand. */
public final class ReadingTest {
    private static final int MAX = Integer.MAX_VALUE;
    private static final int MIN = Integer.MIN_VALUE;
    private static final Due DUE = new Due();

    public static void main(String[] args) {
        newObject();
        words();
        attributeArguments();
        attributeOfType0();
        attributeOfType1();
        attributeOfType2();
        attributeOfType3();
        attributesBeyondMemory();
        attributesStayApart();
        fetchArguments();
        indices();
        indicesBeyondMemory();
        indexArguments();
        howManyTriangles();
        whichVertex();
        cornerArguments();
        DUE.end();
    }

    /** Promise 1. */
    private static void newObject() {
        for (int start = 0; start < 4096; start += 512) {
            VertexWork v = new VertexWork();
            for (int k = start; k < start + 512; k++) {
                DUE.is("1: word(" + k + ", 1)", v.word(k, 1), 0);
            }
        }
        VertexWork v = new VertexWork();
        for (int n = 0; n < 8; n++) {
            for (int k = 0; k < 4; k++) {
                DUE.is("1: fetch(" + n + ", 0, " + k + ")", v.fetch(n, 0, k), k == 3 ? 65536 : 0);
            }
        }
    }

    /** Promise 2. */
    private static void words() {
        VertexWork v = new VertexWork();
        DUE.is("2: word(0, 5)", v.word(0, 5), 0);
        DUE.is("2: word(0, -7)", v.word(0, -7), 5);
        DUE.is("2: word(0, 0)", v.word(0, 0), -7);
        DUE.is("2: word(4095, MIN)", v.word(4095, MIN), 0);
        DUE.is("2: word(4095, MAX)", v.word(4095, MAX), MIN);
        DUE.is("2: word(4094, 1)", v.word(4094, 1), 0);
        for (int wrong : new int[] {-1, 4096, 4097, MIN, MAX}) {
            DUE.outOfBounds("2: word(" + wrong + ", 1)", () -> v.word(wrong, 1));
        }
        DUE.is("2: word(0, 0) after wrong calls", v.word(0, 0), 0);
        DUE.is("2: word(4095, 0) after wrong calls", v.word(4095, 0), MAX);
    }

    /** Promise 3; a wrong call changes nothing. */
    private static void attributeArguments() {
        VertexWork v = new VertexWork();
        v.word(3, 77);
        v.attribute(0, 3, 0, 1, 0);
        int[][] wrong = {
            {-1, 0, 0, 1, 0}, {8, 0, 0, 1, 0}, {MIN, 0, 0, 1, 0}, {MAX, 0, 0, 1, 0},
            {0, -1, 0, 1, 0}, {0, MIN, 0, 1, 0}, {0, 0, -1, 1, 0}, {0, 0, MIN, 1, 0},
            {0, 0, 0, -1, 0}, {0, 0, 0, 5, 0}, {0, 0, 0, MIN, 0}, {0, 0, 0, MAX, 0},
            {0, 0, 0, 1, -1}, {0, 0, 0, 1, 4}, {0, 0, 0, 1, MIN}, {0, 0, 0, 1, MAX},
        };
        for (int[] a : wrong) {
            DUE.illegal("3: attribute" + java.util.Arrays.toString(a), () -> {
                v.attribute(a[0], a[1], a[2], a[3], a[4]);
                return 0;
            });
            DUE.is("3: fetch(0, 0, 0) after a wrong call", v.fetch(0, 0, 0), 77);
        }
        v.attribute(0, MAX, MAX, 4, 3);
        v.attribute(7, 0, 0, 0, 0);
    }

    private static void fetches(VertexWork v, int n, int i, int... want) {
        for (int k = 0; k < want.length; k++) {
            DUE.is("4: fetch(" + n + ", " + i + ", " + k + ")", v.fetch(n, i, k), want[k]);
        }
    }

    private static void attributeOfType0() {
        VertexWork v = new VertexWork();
        for (int k = 0; k < 12; k++) {
            v.word(10 + k, 100 + k);
        }
        v.word(13, MIN);
        for (int parts = 0; parts <= 4; parts++) {
            v.attribute(2, 10, 5, parts, 0);
            fetches(v, 2, 0, parts > 0 ? 100 : 0, parts > 1 ? 101 : 0, parts > 2 ? 102 : 0, parts > 3 ? MIN : 65536);
            fetches(v, 2, 1, parts > 0 ? 105 : 0, parts > 1 ? 106 : 0, parts > 2 ? 107 : 0, parts > 3 ? 108 : 65536);
        }
        v.attribute(2, 10, 0, 4, 0);
        fetches(v, 2, MAX, 100, 101, 102, MIN);
    }

    private static void attributeOfType1() {
        VertexWork v = new VertexWork();
        v.word(4, 0xff800100);
        v.word(6, 0x02fe7f81);
        v.attribute(7, 4, 2, 4, 1);
        fetches(v, 7, 0, 0, 257, 32897, 65536);
        fetches(v, 7, 1, 33154, 32639, 65279, 514);
        v.attribute(7, 4, 2, 3, 1);
        fetches(v, 7, 0, 0, 257, 32897, 65536);
        v.attribute(7, 6, 2, 3, 1);
        fetches(v, 7, 0, 33154, 32639, 65279, 65536);
        v.attribute(7, 6, 2, 1, 1);
        fetches(v, 7, 0, 33154, 0, 0, 65536);
    }

    private static void attributeOfType2() {
        VertexWork v = new VertexWork();
        v.word(0, 0x7fff8000);
        v.word(1, 0xffff0001);
        v.word(2, 0x12345678);
        v.attribute(3, 0, 1, 4, 2);
        fetches(v, 3, 0, -8388608, 8388352, 256, -256);
        fetches(v, 3, 1, 256, -256, 0x567800, 0x123400);
        v.attribute(3, 0, 1, 2, 2);
        fetches(v, 3, 0, -8388608, 8388352, 0, 65536);
    }

    private static void attributeOfType3() {
        VertexWork v = new VertexWork();
        v.word(9, 0xff7f8001);
        v.word(12, 0x00020304);
        v.attribute(4, 9, 3, 4, 3);
        fetches(v, 4, 0, 65536, -8388608, 8323072, -65536);
        fetches(v, 4, 1, 4 * 65536, 3 * 65536, 2 * 65536, 0);
        v.attribute(4, 9, 3, 2, 3);
        fetches(v, 4, 0, 65536, -8388608, 0, 65536);
    }

    /** A word that isn't there is 0; from + i * step does not wrap back into memory. */
    private static void attributesBeyondMemory() {
        VertexWork v = new VertexWork();
        for (int k = 0; k < 8; k++) {
            v.word(k, -1);
        }
        v.word(4094, -1);
        v.word(4095, -1);
        v.attribute(0, 4094, 1, 4, 0);
        fetches(v, 0, 0, -1, -1, 0, 0);
        fetches(v, 0, 1, -1, 0, 0, 0);
        fetches(v, 0, 2, 0, 0, 0, 0);
        v.attribute(1, 4095, 1, 4, 2);
        fetches(v, 1, 0, -256, -256, 0, 0);
        v.attribute(1, 4095, 1, 4, 1);
        fetches(v, 1, 0, 65536, 65536, 65536, 65536);
        fetches(v, 1, 1, 0, 0, 0, 0);
        for (int type = 0; type < 4; type++) {
            v.attribute(2, 0, 1 << 30, 4, type);
            fetches(v, 2, 4, 0, 0, 0, 0);
            v.attribute(2, 2, MAX, 4, type);
            fetches(v, 2, 2, 0, 0, 0, 0);
            v.attribute(2, MAX, 1, 4, type);
            fetches(v, 2, MAX, 0, 0, 0, 0);
            v.attribute(2, MAX, 0, 4, type);
            fetches(v, 2, 0, 0, 0, 0, 0);
            v.attribute(2, MAX, MAX, 4, type);
            fetches(v, 2, MAX, 0, 0, 0, 0);
        }
    }

    private static void attributesStayApart() {
        VertexWork v = new VertexWork();
        for (int n = 0; n < 8; n++) {
            v.word(n, 50 + n);
            v.attribute(n, n, 0, 1, 0);
        }
        for (int n = 0; n < 8; n++) {
            fetches(v, n, 3, 50 + n, 0, 0, 65536);
        }
    }

    /** Promise 4. */
    private static void fetchArguments() {
        VertexWork v = new VertexWork();
        int[][] wrong = {
            {-1, 0, 0}, {8, 0, 0}, {MIN, 0, 0}, {MAX, 0, 0}, {0, -1, 0}, {0, MIN, 0},
            {0, 0, -1}, {0, 0, 4}, {0, 0, MIN}, {0, 0, MAX},
        };
        for (int[] a : wrong) {
            DUE.illegal("4: fetch" + java.util.Arrays.toString(a), () -> v.fetch(a[0], a[1], a[2]));
        }
        DUE.is("4: fetch(7, MAX, 3)", v.fetch(7, MAX, 3), 65536);
    }

    /** Promise 5. */
    private static void indices() {
        VertexWork v = new VertexWork();
        v.word(20, 0x80ff7f01);
        v.word(21, -2);
        DUE.is("5: index(0, 20, 0)", v.index(0, 20, 0), 0x80ff7f01);
        DUE.is("5: index(0, 20, 1)", v.index(0, 20, 1), -2);
        int[] halves = {0x7f01, 0x80ff, 0xfffe, 0xffff, 0, 0};
        for (int k = 0; k < halves.length; k++) {
            DUE.is("5: index(1, 20, " + k + ")", v.index(1, 20, k), halves[k]);
        }
        int[] bytes = {1, 0x7f, 0xff, 0x80, 0xfe, 0xff, 0xff, 0xff, 0};
        for (int k = 0; k < bytes.length; k++) {
            DUE.is("5: index(2, 20, " + k + ")", v.index(2, 20, k), bytes[k]);
        }
    }

    private static void indicesBeyondMemory() {
        VertexWork v = new VertexWork();
        v.word(0, -1);
        v.word(4095, 0x04030201);
        DUE.is("5: index(0, 4095, 0)", v.index(0, 4095, 0), 0x04030201);
        DUE.is("5: index(0, 0, 4095)", v.index(0, 0, 4095), 0x04030201);
        DUE.is("5: index(0, 4095, 1)", v.index(0, 4095, 1), 0);
        DUE.is("5: index(1, 4095, 1)", v.index(1, 4095, 1), 0x0403);
        DUE.is("5: index(1, 0, 8191)", v.index(1, 0, 8191), 0x0403);
        DUE.is("5: index(1, 4095, 2)", v.index(1, 4095, 2), 0);
        DUE.is("5: index(2, 4095, 3)", v.index(2, 4095, 3), 4);
        DUE.is("5: index(2, 0, 16383)", v.index(2, 0, 16383), 4);
        DUE.is("5: index(2, 0, 16384)", v.index(2, 0, 16384), 0);
        for (int type = 0; type < 3; type++) {
            DUE.is("5: index(" + type + ", MAX, MAX)", v.index(type, MAX, MAX), 0);
            DUE.is("5: index(" + type + ", MAX, 1)", v.index(type, MAX, 1), 0);
            DUE.is("5: index(" + type + ", 0, MAX)", v.index(type, 0, MAX), 0);
        }
    }

    private static void indexArguments() {
        VertexWork v = new VertexWork();
        int[][] wrong = {
            {-1, 0, 0}, {3, 0, 0}, {MIN, 0, 0}, {MAX, 0, 0}, {0, -1, 0}, {1, MIN, 0}, {2, -1, 8},
            {0, 0, -1}, {1, 5, -1}, {2, 5, MIN},
        };
        for (int[] a : wrong) {
            DUE.illegal("5: index" + java.util.Arrays.toString(a), () -> v.index(a[0], a[1], a[2]));
        }
    }

    /** Promise 6. */
    private static void howManyTriangles() {
        VertexWork v = new VertexWork();
        int[] many = {0, 1, 2, 3, 4, 5, 6, MAX};
        int[] list = {0, 0, 0, 1, 1, 1, 2, 715827882};
        int[] others = {0, 0, 0, 1, 2, 3, 4, MAX - 2};
        for (int k = 0; k < many.length; k++) {
            DUE.is("6: triangles(0, " + many[k] + ")", v.triangles(0, many[k]), list[k]);
            DUE.is("6: triangles(1, " + many[k] + ")", v.triangles(1, many[k]), others[k]);
            DUE.is("6: triangles(2, " + many[k] + ")", v.triangles(2, many[k]), others[k]);
        }
        int[][] wrong = {{-1, 3}, {3, 3}, {MIN, 3}, {MAX, 3}, {0, -1}, {1, -1}, {2, MIN}};
        for (int[] a : wrong) {
            DUE.illegal("6: triangles" + java.util.Arrays.toString(a), () -> v.triangles(a[0], a[1]));
        }
    }

    private static void corners(VertexWork v, int mode, int t, int c0, int c1, int c2) {
        DUE.is("7: corner(" + mode + ", " + t + ", 0)", v.corner(mode, t, 0), c0);
        DUE.is("7: corner(" + mode + ", " + t + ", 1)", v.corner(mode, t, 1), c1);
        DUE.is("7: corner(" + mode + ", " + t + ", 2)", v.corner(mode, t, 2), c2);
    }

    /** Promise 7. */
    private static void whichVertex() {
        VertexWork v = new VertexWork();
        corners(v, 0, 0, 0, 1, 2);
        corners(v, 0, 7, 21, 22, 23);
        corners(v, 0, 100000000, 300000000, 300000001, 300000002);
        corners(v, 1, 0, 0, 1, 2);
        corners(v, 1, 1, 2, 1, 3);
        corners(v, 1, 2, 2, 3, 4);
        corners(v, 1, 99999999, 100000000, 99999999, 100000001);
        corners(v, 1, 100000000, 100000000, 100000001, 100000002);
        corners(v, 2, 0, 0, 1, 2);
        corners(v, 2, 1, 0, 2, 3);
        corners(v, 2, 100000000, 0, 100000001, 100000002);
    }

    private static void cornerArguments() {
        VertexWork v = new VertexWork();
        int[][] wrong = {
            {-1, 0, 0}, {3, 0, 0}, {MIN, 0, 0}, {MAX, 0, 0}, {0, -1, 0}, {1, 100000001, 0}, {2, MIN, 0},
            {0, MAX, 0}, {0, 0, -1}, {1, 0, 3}, {2, 0, MIN}, {2, 0, MAX},
        };
        for (int[] a : wrong) {
            DUE.illegal("7: corner" + java.util.Arrays.toString(a), () -> v.corner(a[0], a[1], a[2]));
        }
    }
}
