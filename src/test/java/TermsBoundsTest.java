/**
 * Each sentence of the document's Terms that names a bound has a method of its own here: what lies on
 * both sides of the bound, worked out by hand.
 */
public final class TermsBoundsTest {
    private static final int MAX = Integer.MAX_VALUE;
    private static final int MIN = Integer.MIN_VALUE;
    private static final int ONE = Shapes.ONE;
    private static final int DEEPEST = (1 << 24) - 1;
    private static final int X = 0;
    private static final int Y = 1;
    private static final int DEPTH = 2;
    private static final int Q = 3;
    private static final Due DUE = new Due();

    public static void main(String[] args) {
        bytesAreRoundedDown();
        laidIsRoundedDown();
        depthIsRoundedDown();
        cutsAreRoundedDown();
        quotientIsRoundedDown();
        aWordThatIsNotThereIs0();
        verticesAreReckonedWithoutWrapping();
        indicesDoNotWrap();
        bytesOfType1HaveNoSign();
        halvesOfType2HaveSign();
        bytesOfType3HaveSign();
        partsThatItHasNot();
        indicesHaveNoSign();
        asManyAsThereAreVerticesFor();
        oddTrianglesOfAStripAreTurned();
        nearIsWithoutWrapping();
        eyeDoesNotWrap();
        differencesDoNotWrap();
        notBelow0IsInsideOfNear();
        notBelow0IsInsideOfEye();
        nearComesBeforeEye();
        behindAOrAheadOfIt();
        leastAndMostOfTheWay();
        nothingIsLeft();
        oneCornerOnThePlaneIsLeft();
        twoCornersOnThePlaneAreLeft();
        acrossIsCut();
        acrossIsCutWhenTheViewIsAdded();
        depthIsCut();
        depthOfWhatNearRounds();
        depthDoesNotWrap();
        quotientIsAtLeast1();
        greatestAndLeastArea();
        leftOut();
        DUE.end();
    }

    private static int laid(int what, VertexWork v) {
        DUE.is("make() of one spot", v.make(), 1);
        return v.got(0, 0, what);
    }

    /** X of x and w in a view that starts there and is so wide; Y is laid likewise and must be the same. */
    private static int across(int x, int w, int start, int size) {
        VertexWork v = Shapes.spot(x, 0, 0, w);
        v.view(start, 0, size, 1, 0, 0);
        int acrossX = laid(X, v);
        VertexWork u = Shapes.spot(0, x, 0, w);
        u.view(0, start, 1, size, 0, 0);
        DUE.is("Y of y " + x + ", w " + w + ", view " + start + ", " + size, laid(Y, u), acrossX);
        return acrossX;
    }

    private static int deep(int z, int w, int near, int far) {
        VertexWork v = Shapes.spot(0, 0, z, w);
        v.view(0, 0, 1, 1, near, far);
        return laid(DEPTH, v);
    }

    /** Corner 0 is A, inside; 1 and 2 are B, outside, so that corner 1 of what is made lies between A and B. */
    private static VertexWork between(int zA, int wA, int zB, int wB) {
        VertexWork v = Shapes.spot(0, 0, zB, wB);
        v.place(0, 0, 0, zA, wA);
        return v;
    }

    private static int varied(VertexWork v, int ofA, int ofB) {
        v.vary(0, 0, ofA, 0, 0, 0);
        v.vary(1, 0, ofB, 0, 0, 0);
        v.vary(2, 0, ofB, 0, 0, 0);
        DUE.is("make() of A and two B", v.make(), 1);
        return v.got(0, 1, 4);
    }

    /** "All divisions are rounded down": 65536 * 1 and 127, by 255, is 257.5; 2 * 257 + 0.5 for 2; 254: 65279.5. */
    private static void bytesAreRoundedDown() {
        VertexWork v = new VertexWork();
        v.word(0, 0xfffe0201);
        v.attribute(0, 0, 0, 4, 1);
        int[] want = {257, 514, 65279, 65536};
        for (int k = 0; k < 4; k++) {
            DUE.is("Rounded down: type 1, part " + k, v.fetch(0, 0, k), want[k]);
        }
    }

    /** "All divisions are rounded down": x * 65536 / w first, then what is divided by 8192; below 0 too. */
    private static void laidIsRoundedDown() {
        DUE.is("Rounded down: -1 / 3, times 1024", across(-1, 3 * ONE, 0, 1024), 8191);
        DUE.is("Rounded down: 1 / 3, times 1024", across(1, 3 * ONE, 0, 1024), 8192);
        DUE.is("Rounded down: -3 / 3, times 1024", across(-3, 3 * ONE, 0, 1024), 8191);
        DUE.is("Rounded down: -8 / 1, times 1024", across(-8, ONE, 0, 1024), 8191);
        DUE.is("Rounded down: -9 / 1, times 1024", across(-9, ONE, 0, 1024), 8190);
        DUE.is("Rounded down: 0 / 8192", across(-ONE, ONE, 0, 1), 0);
        DUE.is("Rounded down: -1 / 8192", across(-ONE - 1, ONE, 0, 1), -1);
        DUE.is("Rounded down: -8192 / 8192", across(-ONE - 8192, ONE, 0, 1), -1);
        DUE.is("Rounded down: -8193 / 8192", across(-ONE - 8193, ONE, 0, 1), -2);
        DUE.is("Rounded down: 8191 / 8192", across(-ONE + 8191, ONE, 0, 1), 0);
        DUE.is("Rounded down: 8192 / 8192", across(-ONE + 8192, ONE, 0, 1), 1);
    }

    /** "All divisions are rounded down": with far below near what is divided is below 0. */
    private static void depthIsRoundedDown() {
        DUE.is("Rounded down: z -1 / 3", deep(-1, 3 * ONE, 0, 131072), 65535);
        DUE.is("Rounded down: z 1 / 3", deep(1, 3 * ONE, 0, 131072), 65536);
        DUE.is("Rounded down: 65536 * 1 / 131072", deep(0, ONE, 0, 1), 0);
        DUE.is("Rounded down: 131071 * 1 / 131072", deep(ONE - 1, ONE, 0, 1), 0);
        DUE.is("Rounded down: 131072 * 1 / 131072", deep(ONE, ONE, 0, 1), 1);
        DUE.is("Rounded down: 0 * -1 / 131072", deep(-ONE, ONE, 9, 8), 9);
        DUE.is("Rounded down: 1 * -1 / 131072", deep(-ONE + 1, ONE, 9, 8), 8);
        DUE.is("Rounded down: 131072 * -1 / 131072", deep(ONE, ONE, 9, 8), 8);
        DUE.is("Rounded down: 131073 * -1 / 131072", deep(ONE + 1, ONE, 9, 8), 7);
    }

    /** "All divisions are rounded down": a is 1, b is -2, f is 21845 and a third; then of each number. */
    private static void cutsAreRoundedDown() {
        int w = ONE;
        DUE.is("Rounded down: f", varied(between(1 - w, w, -2 - w, w), 0, ONE), 21845);
        DUE.is("Rounded down: f, from above", varied(between(1 - w, w, -2 - w, w), ONE, 0), ONE - 21845);
        DUE.is("Rounded down: 3 * 21845 / 65536", varied(between(1 - w, w, -2 - w, w), 0, 3), 0);
        DUE.is("Rounded down: 4 * 21845 / 65536", varied(between(1 - w, w, -2 - w, w), 0, 4), 1);
        DUE.is("Rounded down: -1 * 21845 / 65536", varied(between(1 - w, w, -2 - w, w), 0, -1), -1);
        DUE.is("Rounded down: -4 * 21845 / 65536", varied(between(1 - w, w, -2 - w, w), 0, -4), -2);
        DUE.is("Rounded down: from A, not from B", varied(between(1 - w, w, -2 - w, w), 5, 4), 4);
        DUE.is("Rounded down: f of EYE", varied(between(ONE, 257, ONE, 254), 0, ONE), 21845);
        DUE.is("Rounded down: -1 * 21845 / 65536 of EYE", varied(between(ONE, 257, ONE, 254), 0, -1), -1);
    }

    /** "All divisions are rounded down": 2^30 / 257 is 4177983 and a rest of 193. */
    private static void quotientIsRoundedDown() {
        DUE.is("Rounded down: 2^30 / 256", laid(Q, Shapes.spot(0, 0, 0, 256)), 4194304);
        DUE.is("Rounded down: 2^30 / 257", laid(Q, Shapes.spot(0, 0, 0, 257)), 4177983);
        DUE.is("Rounded down: 2^30 / 65535", laid(Q, Shapes.spot(0, 0, 0, ONE - 1)), 16384);
        DUE.is("Rounded down: 2^30 / 65536", laid(Q, Shapes.spot(0, 0, 0, ONE)), 16384);
        DUE.is("Rounded down: 2^30 / 65537", laid(Q, Shapes.spot(0, 0, 0, ONE + 1)), 16383);
    }

    /** "a word that isn't there is 0": word 4095 is the last; the first words are not read in its stead. */
    private static void aWordThatIsNotThereIs0() {
        VertexWork v = new VertexWork();
        for (int k = 0; k < 4; k++) {
            v.word(k, -1);
        }
        v.word(4095, -1);
        int[][] from4095 = {{-1, 0, 0, 0}, {ONE, ONE, ONE, ONE}, {-256, -256, 0, 0}, {-ONE, -ONE, -ONE, -ONE}};
        for (int type = 0; type < 4; type++) {
            v.attribute(0, 4095, 1, 4, type);
            v.attribute(1, 4096, 1, 4, type);
            for (int k = 0; k < 4; k++) {
                String part = "A word that isn't there: type " + type + ", part " + k;
                DUE.is(part + " from 4095", v.fetch(0, 0, k), from4095[type][k]);
                DUE.is(part + " from 4095, vertex 1", v.fetch(0, 1, k), 0);
                DUE.is(part + " from 4096", v.fetch(1, 0, k), 0);
            }
        }
        int[] last = {-1, 0xffff, 0xff};
        int[] inAWord = {1, 2, 4};
        for (int type = 0; type < 3; type++) {
            String index = "A word that isn't there: index(" + type + ", ";
            int k = inAWord[type];
            DUE.is(index + "4095, last of the word)", v.index(type, 4095, k - 1), last[type]);
            DUE.is(index + "4095, first beyond)", v.index(type, 4095, k), 0);
            DUE.is(index + "4096, 0)", v.index(type, 4096, 0), 0);
            DUE.is(index + "0, last of memory)", v.index(type, 0, 4096 * k - 1), last[type]);
            DUE.is(index + "0, first beyond)", v.index(type, 0, 4096 * k), 0);
        }
    }

    private static void reads(VertexWork v, int from, int step, int i, boolean isThere) {
        for (int type = 0; type < 4; type++) {
            v.attribute(5, from, step, 4, type);
            for (int k = 0; k < 4; k++) {
                String call = "Without wrapping: from " + from + ", step " + step + ", vertex " + i + ", type " + type;
                DUE.is(call + ", part " + k + " is there", v.fetch(5, i, k) != 0 ? 1 : 0, isThere ? 1 : 0);
            }
        }
    }

    /** "from + i * step (reckoned without wrapping)": in 32 bits these would be the words 0 to 3. */
    private static void verticesAreReckonedWithoutWrapping() {
        VertexWork v = new VertexWork();
        for (int k = 0; k < 8; k++) {
            v.word(k, -1);
            v.word(4088 + k, -1);
        }
        reads(v, 0, 4092, 1, true);
        reads(v, 0, 1, 4092, true);
        reads(v, 4092, 0, MAX, true);
        reads(v, 4092, MAX, 0, true);
        reads(v, 0, 4096, 1, false);
        reads(v, 0, 1, 4096, false);
        reads(v, 0, 1 << 30, 4, false);
        reads(v, 0, 4, 1 << 30, false);
        VertexWork u = new VertexWork();
        for (int k = 0; k < 8; k++) {
            u.word(k, -1);
        }
        reads(u, 0, ONE, ONE, false);
        reads(u, 0, MAX, MAX, false);
        reads(u, 4, MAX, 2, false);
        reads(u, MAX, MAX, MAX, false);
        reads(u, MAX, 1, MAX, false);
        reads(u, MAX, 0, 0, false);
        VertexWork p = new VertexWork();
        p.word(0, -1);
        reads(p, 0, 1431655765, 3, false);
        reads(p, 4095, 1, 1, false);
    }

    /** "of type 0 index k is the word from + k": the sum too goes beyond an int. */
    private static void indicesDoNotWrap() {
        VertexWork v = new VertexWork();
        for (int k = 0; k < 4; k++) {
            v.word(k, -1);
            v.word(4092 + k, -1);
        }
        for (int type = 0; type < 3; type++) {
            String index = "Without wrapping: index(" + type + ", ";
            DUE.is(index + "MAX, 0)", v.index(type, MAX, 0), 0);
            DUE.is(index + "MAX, 4)", v.index(type, MAX, 4), 0);
            DUE.is(index + "MAX, MAX)", v.index(type, MAX, MAX), 0);
            DUE.is(index + "0, MAX)", v.index(type, 0, MAX), 0);
            DUE.is(index + "4, MAX)", v.index(type, 4, MAX), 0);
        }
    }

    private static void parts(String name, int word, int type, int... want) {
        VertexWork v = new VertexWork();
        v.word(9, word);
        v.word(10, word);
        v.attribute(0, 9, 0, 4, type);
        for (int k = 0; k < 4; k++) {
            DUE.is(name + ", part " + k, v.fetch(0, 0, k), want[k]);
        }
    }

    /** "byte k of word p (the lowest one first), 65536 times it and 127, divided by 255". */
    private static void bytesOfType1HaveNoSign() {
        parts("Type 1: 0, 127, 128, 255", 0xff807f00, 1, 0, 32639, 32897, ONE);
        parts("Type 1: 255, 128, 127, 0", 0x007f80ff, 1, ONE, 32897, 32639, 0);
    }

    /** "the half k mod 2 of the word p + k / 2 (the lower one first), as a number with sign, times 256". */
    private static void halvesOfType2HaveSign() {
        parts("Type 2: 32767, -32768", 0x80007fff, 2, 8388352, -8388608, 8388352, -8388608);
        parts("Type 2: -32768, 32767", 0x7fff8000, 2, -8388608, 8388352, -8388608, 8388352);
        parts("Type 2: -1, 0", 0x0000ffff, 2, -256, 0, -256, 0);
        parts("Type 2: 0, -1", 0xffff0000, 2, 0, -256, 0, -256);
    }

    /** "byte k of word p, with sign, times 65536". */
    private static void bytesOfType3HaveSign() {
        parts("Type 3: 127, -128, -1, 0", 0x00ff807f, 3, 8323072, -8388608, -ONE, 0);
        parts("Type 3: 0, -1, -128, 127", 0x7f80ff00, 3, 0, -ONE, -8388608, 8323072);
    }

    /** "Parts that it has not are 0, 0, 0, 65536": the last that it has, and the first that it has not. */
    private static void partsThatItHasNot() {
        VertexWork v = new VertexWork();
        for (int k = 0; k < 4; k++) {
            v.word(k, 0x03030303);
        }
        int[] has = {0x03030303, 771, 0x030300, 3 * ONE};
        int[] hasNot = {0, 0, 0, ONE};
        for (int type = 0; type < 4; type++) {
            for (int parts = 0; parts <= 4; parts++) {
                v.attribute(6, 0, 0, parts, type);
                for (int k = 0; k < 4; k++) {
                    String call = "Parts that it has not: type " + type + ", parts " + parts + ", part " + k;
                    DUE.is(call, v.fetch(6, 0, k), k < parts ? has[type] : hasNot[k]);
                }
            }
        }
    }

    /** "both without sign", "the lower ones first"; the word of type 0 is what it is. */
    private static void indicesHaveNoSign() {
        VertexWork v = new VertexWork();
        v.word(1, 0x80007fff);
        v.word(2, 0xff807f00);
        v.word(3, -1);
        DUE.is("Index of type 0, below 0", v.index(0, 1, 2), -1);
        int[] halves = {0x7fff, 0x8000, 0x7f00, 0xff80, 0xffff, 0xffff, 0};
        for (int k = 0; k < halves.length; k++) {
            DUE.is("Index of type 1: index(1, 1, " + k + ")", v.index(1, 1, k), halves[k]);
        }
        int[] bytes = {0xff, 0x7f, 0, 0x80, 0, 0x7f, 0x80, 0xff, 0xff, 0xff, 0xff, 0xff, 0};
        for (int k = 0; k < bytes.length; k++) {
            DUE.is("Index of type 2: index(2, 1, " + k + ")", v.index(2, 1, k), bytes[k]);
        }
    }

    private static int greatestCorner(VertexWork v, int mode, int t) {
        return Math.max(v.corner(mode, t, 0), Math.max(v.corner(mode, t, 1), v.corner(mode, t, 2)));
    }

    /** "as many as there are vertices for": the last triangle's vertices are there, one more's are not. */
    private static void asManyAsThereAreVerticesFor() {
        VertexWork v = new VertexWork();
        int[][] of0To7 = {{0, 0, 0, 1, 1, 1, 2, 2}, {0, 0, 0, 1, 2, 3, 4, 5}, {0, 0, 0, 1, 2, 3, 4, 5}};
        for (int mode = 0; mode < 3; mode++) {
            for (int many = 0; many < 8; many++) {
                String call = "As many: triangles(" + mode + ", " + many + ")";
                int triangles = v.triangles(mode, many);
                DUE.is(call, triangles, of0To7[mode][many]);
                if (triangles > 0) {
                    DUE.is(call + ", the last is there", greatestCorner(v, mode, triangles - 1) < many ? 1 : 0, 1);
                }
                DUE.is(call + ", no more", greatestCorner(v, mode, triangles) >= many ? 1 : 0, 1);
            }
        }
        DUE.is("As many: triangles(0, MAX)", v.triangles(0, MAX), 715827882);
        DUE.is("As many: triangles(0, MAX - 1)", v.triangles(0, MAX - 1), 715827882);
        DUE.is("As many: triangles(0, MAX - 2)", v.triangles(0, MAX - 2), 715827881);
        DUE.is("As many: triangles(1, MAX)", v.triangles(1, MAX), MAX - 2);
        DUE.is("As many: triangles(2, MAX)", v.triangles(2, MAX), MAX - 2);
    }

    /** "t, t + 1, t + 2 for even t, t + 1, t, t + 2 for odd ones". */
    private static void oddTrianglesOfAStripAreTurned() {
        VertexWork v = new VertexWork();
        int[][] corners = {{0, 1, 2}, {2, 1, 3}, {2, 3, 4}, {4, 3, 5}};
        for (int t = 0; t < corners.length; t++) {
            for (int j = 0; j < 3; j++) {
                DUE.is("Strip: corner(1, " + t + ", " + j + ")", v.corner(1, t, j), corners[t][j]);
            }
        }
    }

    /** "z + w (without wrapping)", above an int and below it. */
    private static void nearIsWithoutWrapping() {
        DUE.is("NEAR 2^31 - 1", Shapes.spot(0, 0, MAX - 256, 256).make(), 1);
        DUE.is("NEAR 2^31", Shapes.spot(0, 0, MAX - 255, 256).make(), 1);
        DUE.is("NEAR 2^32 - 2", Shapes.spot(0, 0, MAX, MAX).make(), 1);
        // b is -2^31 - 1: f is 2^32 / (2^31 + 65537), which is 1
        DUE.is("NEAR -2^31 - 1", varied(between(0, ONE, MIN, -1), 0, ONE), 1);
        // b is -2^32: f is 2^32 / (2^32 + 65536), which is 0
        DUE.is("NEAR -2^32", varied(between(0, ONE, MIN, MIN), 7, ONE), 7);
    }

    /** "EYE: w - 256": w is as low as it can be where NEAR is not below 0. */
    private static void eyeDoesNotWrap() {
        DUE.is("EYE of -2^31 + 256", Shapes.spot(0, 0, MAX, MIN + 256).make(), 0);
        DUE.is("EYE of -2^31 + 255", Shapes.spot(0, 0, MAX, MIN + 255).make(), 0);
        DUE.is("EYE of -2^31 + 1", Shapes.spot(0, 0, MAX, MIN + 1).make(), 0);
        // a is 2^31 - 257, b is -2^31 - 255: f is 65536 * (2^31 - 257) / (2^32 - 2), which is 32767
        DUE.is("EYE, a - b beyond an int", varied(between(MAX, MAX, MAX, MIN + 1), 0, ONE), 32767);
    }

    /** "that of B less that of A" goes beyond an int, and so does a - b; f is 65536 * (2^32 - 2) / (2^32 - 1). */
    private static void differencesDoNotWrap() {
        DUE.is("MIN less MAX", varied(between(MAX, MAX, MIN, MAX), MAX, MIN), -2147418113);
        DUE.is("MAX less MIN", varied(between(MAX, MAX, MIN, MAX), MIN, MAX), 2147418111);
    }

    private static int madeWith(int j, int z, int w) {
        VertexWork v = Shapes.simple();
        v.place(j, 0, 0, z, w);
        return v.make();
    }

    /** "what isn't below 0 is inside": z + w of -1, 0 and 1, of each corner and of all. */
    private static void notBelow0IsInsideOfNear() {
        for (int j = 0; j < 3; j++) {
            DUE.is("NEAR 1 of corner " + j, madeWith(j, 1 - ONE, ONE), 1);
            DUE.is("NEAR 0 of corner " + j, madeWith(j, -ONE, ONE), 1);
            DUE.is("NEAR -1 of corner " + j, madeWith(j, -1 - ONE, ONE), 2);
        }
        DUE.is("NEAR 1 of all", Shapes.spot(0, 0, 1 - ONE, ONE).make(), 1);
        DUE.is("NEAR 0 of all", Shapes.spot(0, 0, -ONE, ONE).make(), 1);
        DUE.is("NEAR -1 of all", Shapes.spot(0, 0, -1 - ONE, ONE).make(), 0);
    }

    /** "what isn't below 0 is inside": w of 255, 256 and 257, of each corner and of all. */
    private static void notBelow0IsInsideOfEye() {
        for (int j = 0; j < 3; j++) {
            DUE.is("EYE 1 of corner " + j, madeWith(j, 0, 257), 1);
            DUE.is("EYE 0 of corner " + j, madeWith(j, 0, 256), 1);
            DUE.is("EYE -1 of corner " + j, madeWith(j, 0, 255), 2);
        }
        DUE.is("EYE 1 of all", Shapes.spot(0, 0, 0, 257).make(), 1);
        DUE.is("EYE 0 of all", Shapes.spot(0, 0, 0, 256).make(), 1);
        DUE.is("EYE -1 of all", Shapes.spot(0, 0, 0, 255).make(), 0);
    }

    /** "first by NEAR .. then by EYE": the other way round the roundings give other numbers. */
    private static void nearComesBeforeEye() {
        // NEAR: f 65536 / 3, the new w 21846 is inside of EYE; EYE first would end at 21844
        DUE.is("NEAR alone", varied(between(0, ONE, -ONE, -ONE), 0, ONE), 21845);
        // NEAR: f 43690, the new w -21844; EYE: f 48961 of 43690; EYE first, and alone, would end at 32640
        DUE.is("NEAR, then EYE", varied(between(ONE, ONE, 0, -ONE), 0, ONE), 32639);
    }

    /**
     * "it lies behind A if A comes first, ahead of it if B does", going around "from corner 0 on". With a 1000
     * and b -1000 a new corner lies half way: of 0, 100 and 300 at 50, 200 and 150.
     */
    private static void behindAOrAheadOfIt() {
        boolean[][] isOut = {
            {true, false, false}, {false, true, false}, {false, false, true},
            {true, true, false}, {true, false, true}, {false, true, true},
        };
        int[][] around = {
            {50, 100, 300, 150}, {0, 50, 200, 300}, {0, 100, 200, 150},
            {200, 300, 150}, {50, 100, 200}, {0, 50, 150},
        };
        int[] values = {0, 100, 300};
        for (int c = 0; c < isOut.length; c++) {
            VertexWork near = new VertexWork();
            VertexWork eye = new VertexWork();
            for (int j = 0; j < 3; j++) {
                near.place(j, 0, 0, isOut[c][j] ? -2000 : 0, 1000);
                eye.place(j, 0, 0, ONE, isOut[c][j] ? -744 : 1256);
                near.vary(j, 6, 0, 0, 0, values[j]);
                eye.vary(j, 6, 0, 0, 0, values[j]);
            }
            goesAround("NEAR, around, case " + c, near, around[c]);
            goesAround("EYE, around, case " + c, eye, around[c]);
        }
    }

    private static void goesAround(String name, VertexWork v, int[] around) {
        DUE.is(name + ": make()", v.make(), around.length - 2);
        for (int t = 0; t + 2 < around.length; t++) {
            DUE.is(name + ": corner 0 of " + t, v.got(t, 0, 31), around[0]);
            DUE.is(name + ": corner 1 of " + t, v.got(t, 1, 31), around[t + 1]);
            DUE.is(name + ": corner 2 of " + t, v.got(t, 2, 31), around[t + 2]);
        }
    }

    /** "f is 65536 * a divided by a - b": 0 where a is 0, never 65536. */
    private static void leastAndMostOfTheWay() {
        DUE.is("NEAR, a 0", varied(between(-ONE, ONE, -2 * ONE, ONE), 7, ONE), 7);
        DUE.is("NEAR, a 65535, b -1", varied(between(-1, ONE, -1 - ONE, ONE), 0, ONE), 65535);
        DUE.is("NEAR, a 2^32 - 2, b -1", varied(between(MAX, MAX, MIN, MAX), 0, ONE), 65535);
        DUE.is("EYE, a 0", varied(between(MAX, 256, MAX, -5), 7, ONE), 7);
        DUE.is("EYE, a 65535, b -1", varied(between(MAX, 65791, MAX, 255), 0, ONE), 65535);
        DUE.is("EYE, a 2^31 - 257, b -1", varied(between(MAX, MAX, MAX, 255), 0, ONE), 65535);
    }

    private static void isNothing(String name, VertexWork v) {
        DUE.is(name + ": make()", v.make(), 0);
        DUE.outOfBounds(name + ": side(0)", () -> v.side(0));
        DUE.outOfBounds(name + ": got(0, 0, 0)", () -> v.got(0, 0, 0));
        DUE.outOfBounds(name + ": area(0)", () -> v.area(0));
    }

    /** "Of none, one or two corners nothing is left": a cut leaves none, or three and more. */
    private static void nothingIsLeft() {
        isNothing("None left by NEAR", Shapes.spot(0, 0, -ONE - 1, ONE));
        isNothing("None left by EYE of three", Shapes.spot(0, 0, ONE, 255));
        VertexWork four = Shapes.spot(0, 0, ONE, 255);
        four.place(2, 0, 0, -ONE, 255);
        isNothing("None left by EYE of four", four);
        VertexWork v = Shapes.simple();
        DUE.is("Before: make()", v.make(), 1);
        for (int j = 0; j < 3; j++) {
            v.place(j, 0, 0, -ONE - 1, ONE);
        }
        isNothing("None left, after one was", v);
    }

    /** One corner, for which NEAR or EYE is 0, and the two new ones at its place are three corners. */
    private static void oneCornerOnThePlaneIsLeft() {
        for (int plane = 0; plane < 2; plane++) {
            VertexWork v = plane == 0 ? between(-ONE, ONE, -2 * ONE, ONE) : between(MAX, 256, MAX, 0);
            v.place(0, ONE, ONE, plane == 0 ? -ONE : MAX, plane == 0 ? ONE : 256);
            DUE.is("One on the plane: make()", v.make(), 1);
            DUE.is("One on the plane: area(0)", v.area(0), 0);
            DUE.is("One on the plane: side(0)", v.side(0), VertexWork.NONE);
            for (int what = 0; what < 4; what++) {
                DUE.is("One on the plane: got(0, 1, " + what + ")", v.got(0, 1, what), v.got(0, 0, what));
                DUE.is("One on the plane: got(0, 2, " + what + ")", v.got(0, 2, what), v.got(0, 0, what));
            }
        }
    }

    /** Two corners on the plane and the two new ones at their places are four corners, two triangles of area 0. */
    private static void twoCornersOnThePlaneAreLeft() {
        for (int plane = 0; plane < 2; plane++) {
            int z = plane == 0 ? -ONE : ONE;
            int w = plane == 0 ? ONE : 256;
            VertexWork v = new VertexWork();
            v.view(0, 0, 64, 64, 0, DEEPEST);
            v.place(0, 0, 0, z, w);
            v.place(1, w, w, z, w);
            v.place(2, -w, w, plane == 0 ? z - 1 : z, plane == 0 ? w : w - 1);
            DUE.is("Two on the plane: make()", v.make(), 2);
            int[][] want = {{512, 1024, 1024}, {512, 1024, 512}};
            for (int t = 0; t < 2; t++) {
                DUE.is("Two on the plane: area(" + t + ")", v.area(t), 0);
                for (int j = 0; j < 3; j++) {
                    DUE.is("Two on the plane: X of " + t + ", " + j, v.got(t, j, X), want[t][j]);
                }
            }
        }
    }

    /** "each cut to -16384 .. 16383": 1024 wide, w 65536, X is (x and 65536) divided by 8. */
    private static void acrossIsCut() {
        DUE.is("16382", across(ONE - 9, ONE, 0, 1024), 16382);
        DUE.is("16383", across(ONE - 8, ONE, 0, 1024), 16383);
        DUE.is("16383, the last", across(ONE - 1, ONE, 0, 1024), 16383);
        DUE.is("16384", across(ONE, ONE, 0, 1024), 16383);
        DUE.is("16385", across(ONE + 8, ONE, 0, 1024), 16383);
        DUE.is("the most", across(MAX, 256, 0, 1024), 16383);
        DUE.is("-16383", across(-3 * ONE + 8, ONE, 0, 1024), -16383);
        DUE.is("-16384", across(-3 * ONE, ONE, 0, 1024), -16384);
        DUE.is("-16384, the first", across(-3 * ONE + 7, ONE, 0, 1024), -16384);
        DUE.is("-16385", across(-3 * ONE - 1, ONE, 0, 1024), -16384);
        DUE.is("the least", across(MIN, 256, 0, 1024), -16384);
    }

    /** "X is 16 x of the view, and ..; each cut": the sum is cut, not what is added. */
    private static void acrossIsCutWhenTheViewIsAdded() {
        DUE.is("-16368 and 32751", across(ONE * 3 - 129, ONE, -1023, 1024), 16383);
        DUE.is("-16368 and 32736", across(ONE * 3 - 256, ONE, -1023, 1024), 16368);
        DUE.is("16368 and -32752", across(-ONE * 5 + 128, ONE, 1023, 1024), -16384);
        DUE.is("16368 and -32751", across(-ONE * 5 + 136, ONE, 1023, 1024), -16383);
        DUE.is("16368 and 14", across(-ONE + 112, ONE, 1023, 1024), 16382);
        DUE.is("16368 and 15", across(-ONE + 120, ONE, 1023, 1024), 16383);
        DUE.is("16368 and 16", across(-ONE + 128, ONE, 1023, 1024), 16383);
        DUE.is("-16368 and -15", across(-ONE - 120, ONE, -1023, 1024), -16383);
        DUE.is("-16368 and -16", across(-ONE - 128, ONE, -1023, 1024), -16384);
        DUE.is("-16368 and -17", across(-ONE - 136, ONE, -1023, 1024), -16384);
        DUE.is("16, 1 wide", across(ONE, ONE, 0, 1), 16);
        DUE.is("16368, 1 wide", across(-ONE, ONE, 1023, 1), 16368);
        DUE.is("-16368, 1 wide", across(-ONE, ONE, -1023, 1), -16368);
    }

    /** "cut to 0 .. 2^24 - 1". */
    private static void depthIsCut() {
        DUE.is("2^24 - 2", deep(ONE - 1, ONE, DEEPEST - 1, DEEPEST), DEEPEST - 1);
        DUE.is("2^24 - 1", deep(ONE, ONE, DEEPEST - 1, DEEPEST), DEEPEST);
        DUE.is("2^24 - 1, the last", deep(3 * ONE - 1, ONE, DEEPEST - 1, DEEPEST), DEEPEST);
        DUE.is("2^24", deep(3 * ONE, ONE, DEEPEST - 1, DEEPEST), DEEPEST);
        DUE.is("2^24 + 1", deep(5 * ONE, ONE, DEEPEST - 1, DEEPEST), DEEPEST);
        DUE.is("1", deep(-ONE, ONE, 1, 0), 1);
        DUE.is("0", deep(ONE, ONE, 1, 0), 0);
        DUE.is("-1", deep(ONE + 1, ONE, 1, 0), 0);
        DUE.is("-2", deep(5 * ONE, ONE, 1, 0), 0);
        DUE.is("0 of near 0", deep(-ONE, ONE, 0, DEEPEST), 0);
        DUE.is("2^24 - 1 of near 2^24 - 1", deep(-ONE, ONE, DEEPEST, 0), DEEPEST);
        DUE.is("as deep as it is", deep(MAX, 256, 77, 77), 77);
    }

    /**
     * "cut to 0 .. 2^24 - 1": f is 61356 and the new corner's z is -65537, its w 65536, so that it lies
     * ahead of near by 1 of 131072.
     */
    private static void depthOfWhatNearRounds() {
        int[][] cases = {{0, DEEPEST, 0}, {DEEPEST, 0, DEEPEST}, {0, 1, 0}, {1, 2, 0}, {2, 3, 1}, {3, 2, 3}, {0, 0, 0}};
        for (int[] c : cases) {
            VertexWork v = between(-3, ONE, -70001, ONE + 1);
            v.view(0, 0, 1, 1, c[0], c[1]);
            DUE.is("Ahead of near: make()", v.make(), 1);
            DUE.is("Ahead of near " + c[0] + ", far " + c[1], v.got(0, 1, DEPTH), c[2]);
        }
    }

    /** The greatest z over the least w, times the depths, is beyond 64 bits from z 2^31 - 127 on. */
    private static void depthDoesNotWrap() {
        for (int less = 0; less < 256; less++) {
            DUE.is("z 2^31 - 1 - " + less, deep(MAX - less, 256, 0, DEEPEST), DEEPEST);
            DUE.is("z 2^31 - 1 - " + less + ", far before near", deep(MAX - less, 256, DEEPEST, 0), 0);
        }
    }

    /** "at least 1". */
    private static void quotientIsAtLeast1() {
        int[][] cases = {{1 << 29, 2}, {(1 << 29) + 1, 1}, {1 << 30, 1}, {(1 << 30) + 1, 1}, {MAX, 1}};
        for (int[] c : cases) {
            DUE.is("At least 1: Q of w " + c[0], laid(Q, Shapes.spot(0, 0, 0, c[0])), c[1]);
        }
    }

    /** Corners at sixteenths of the screen: 512 wide and high, w 65536, X is (x and 65536) divided by 16. */
    private static VertexWork atSixteenths(int... xy) {
        VertexWork v = new VertexWork();
        v.view(0, 0, 512, 512, 0, DEEPEST);
        for (int j = 0; j < 3; j++) {
            v.place(j, 16 * xy[2 * j] - ONE, 16 * xy[2 * j + 1] - ONE, 0, ONE);
        }
        return v;
    }

    /** "AREA is (X1 - X0) (Y2 - Y0) - (X2 - X0) (Y1 - Y0)", of corners from -16384 to 16383. */
    private static void greatestAndLeastArea() {
        int least = -16384;
        int most = 16383;
        VertexWork above = atSixteenths(least, least, most, least, least, most);
        above.make();
        DUE.is("The greatest area", above.area(0), 1073676289);
        VertexWork below = atSixteenths(least, least, least, most, most, least);
        below.make();
        DUE.is("The least area", below.area(0), -1073676289);
        VertexWork between = atSixteenths(0, 0, most, least, most, most);
        between.make();
        DUE.is("The greatest products, 16383 * 16383 + 16383 * 16384", between.area(0), 536821761);
        VertexWork apart = atSixteenths(3, 7, 16, 9, 5, 30);
        apart.make();
        DUE.is("13 * 23 - 2 * 2", apart.area(0), 295);
    }

    /** "It is LEFT OUT if it is 0, or that side is": areas 1, 0 and -1, whatever is left out, both ways round. */
    private static void leftOut() {
        int none = VertexWork.NONE;
        // out 0 .. 3, area 1 and -1, the clock not turning front; then the clock turning it
        int[][] above = {{0, none, 0, none}, {1, 1, none, none}};
        int[][] below = {{1, 1, none, none}, {0, none, 0, none}};
        for (int out = 0; out < 4; out++) {
            for (int turn = 0; turn < 2; turn++) {
                String faces = ", faces(" + out + ", " + (turn == 1) + ")";
                shows("Area 1" + faces, atSixteenths(0, 0, 1, 0, 0, 1), out, turn == 1, 1, above[turn][out]);
                shows("Area 0" + faces, atSixteenths(0, 0, 1, 1, 2, 2), out, turn == 1, 0, none);
                shows("Area -1" + faces, atSixteenths(0, 0, 0, 1, 1, 0), out, turn == 1, -1, below[turn][out]);
            }
        }
    }

    private static void shows(String name, VertexWork v, int out, boolean clock, long area, int side) {
        v.faces(out, clock);
        DUE.is(name + ": make()", v.make(), 1);
        DUE.is(name + ": area(0)", v.area(0), area);
        DUE.is(name + ": side(0)", v.side(0), side);
    }
}
