import java.math.BigInteger;
import java.util.ArrayList;
import java.util.List;

/**
 * Long runs of calls with arguments drawn from a fixed sequence, against a second writing of the
 * document that reckons with numbers of any size and is written for plainness alone.
 */
public final class ModelTest {
    private static final Due DUE = new Due();
    private static final int[] EDGES = {
        0, 1, -1, 2, 3, 7, 8, 127, 128, 255, 256, 257, -256, 4095, 4096, 32767, 32768, 65535, 65536, 65537, -65536,
        200000, -200000, 16777215, 16777216, Integer.MAX_VALUE, Integer.MIN_VALUE, Integer.MIN_VALUE + 1,
    };

    private long state = 20261115;
    private final int[] triangleCounts = new int[4];

    public static void main(String[] args) {
        ModelTest test = new ModelTest();
        for (int run = 0; run < 4000; run++) {
            test.pipelineRun(run);
        }
        for (int run = 0; run < 1000; run++) {
            test.readingRun(run);
        }
        for (int many = 0; many < 4; many++) {
            if (test.triangleCounts[many] < 100) {
                DUE.tell("the sequence came to " + many + " triangles too seldom: " + test.triangleCounts[many]);
            }
        }
        DUE.end();
    }

    private int below(int end) {
        state = state * 6364136223846793005L + 1442695040888963407L;
        return (int) ((state >>> 33) % end);
    }

    private int anyInt() {
        return below(65536) << 16 | below(65536);
    }

    /** Edges, middling and any numbers, so that every branch is met often. */
    private int number() {
        switch (below(5)) {
            case 0:
                return EDGES[below(EDGES.length)];
            case 1:
                return anyInt();
            case 2:
                return below(2048) - 1024;
            default:
                return below(400001) - 200000;
        }
    }

    private void pipelineRun(int run) {
        VertexWork v = new VertexWork();
        int[][] corners = new int[3][32];
        int[] view = {0, 0, 1, 1, 0, 16777215};
        int out = 0;
        boolean clock = false;
        for (int round = 0; round < 4; round++) {
            for (int j = 0; j < 3; j++) {
                for (int k = 0; k < 32; k++) {
                    corners[j][k] = number();
                }
                if (below(3) > 0) {
                    corners[j][3] = below(200000) - 40000;
                }
                put(v, j, corners[j]);
            }
            if (below(2) == 0) {
                view = new int[] {below(2047) - 1023, below(2047) - 1023, 1 + below(1024), 1 + below(1024), depth(), depth()};
                v.view(view[0], view[1], view[2], view[3], view[4], view[5]);
            }
            if (below(2) == 0) {
                out = below(4);
                clock = below(2) == 0;
                v.faces(out, clock);
            }
            compare(run, v, Model.made(corners, view), out, clock);
        }
    }

    private int depth() {
        return below(3) == 0 ? 16777215 * below(2) : below(16777216);
    }

    private static void put(VertexWork v, int j, int[] c) {
        v.place(j, c[0], c[1], c[2], c[3]);
        for (int n = 0; n < 7; n++) {
            int s = 4 + 4 * n;
            v.vary(j, n, c[s], c[s + 1], c[s + 2], c[s + 3]);
        }
    }

    private void compare(int run, VertexWork v, List<BigInteger[]> want, int out, boolean clock) {
        int many = Math.max(0, want.size() - 2);
        int got = v.make();
        DUE.is("run " + run + ": make()", got, many);
        if (got != many) {
            return;
        }
        triangleCounts[Math.min(3, many)]++;
        for (int t = 0; t < many; t++) {
            BigInteger[][] corners = {want.get(0), want.get(t + 1), want.get(t + 2)};
            long area = Model.area(corners);
            DUE.is("run " + run + ": area(" + t + ")", v.area(t), area);
            DUE.is("run " + run + ": side(" + t + ")", v.side(t), Model.side(area, out, clock));
            for (int j = 0; j < 3; j++) {
                int what = below(32);
                for (int w : new int[] {0, 1, 2, 3, what}) {
                    DUE.is("run " + run + ": got(" + t + ", " + j + ", " + w + ")", v.got(t, j, w), corners[j][w].longValueExact());
                }
            }
        }
        DUE.outOfBounds("run " + run + ": side(" + many + ")", () -> v.side(many));
    }

    private void readingRun(int run) {
        VertexWork v = new VertexWork();
        int[] words = new int[4096];
        int base = below(2) == 0 ? below(4096) : 4090;
        for (int k = 0; k < 40; k++) {
            int where = (base + k) % 4096;
            int what = number();
            DUE.is("run " + run + ": word(" + where + ", " + what + ")", v.word(where, what), words[where]);
            words[where] = what;
        }
        for (int round = 0; round < 100; round++) {
            int from = below(4) == 0 ? number() & Integer.MAX_VALUE : base + below(20);
            int step = below(4) == 0 ? number() & Integer.MAX_VALUE : below(4);
            int i = below(4) == 0 ? number() & Integer.MAX_VALUE : below(6);
            int n = below(8);
            int parts = below(5);
            int type = below(4);
            int k = below(4);
            v.attribute(n, from, step, parts, type);
            DUE.is("run " + run + ": fetch of " + from + " " + step + " " + parts + " " + type + " " + i + " " + k,
                v.fetch(n, i, k), Model.fetched(words, new int[] {from, step, parts, type}, i, k));
            int indexType = below(3);
            int many = below(4) == 0 ? i : below(160);
            DUE.is("run " + run + ": index(" + indexType + ", " + from + ", " + many + ")",
                v.index(indexType, from, many), Model.index(words, indexType, from, many));
        }
    }

    /** The document, once more. */
    private static final class Model {
        private static final BigInteger ONE = big(65536);

        static BigInteger big(long n) {
            return BigInteger.valueOf(n);
        }

        static BigInteger down(BigInteger n, BigInteger by) {
            BigInteger[] both = n.divideAndRemainder(by);
            return both[1].signum() != 0 && both[1].signum() != by.signum() ? both[0].subtract(BigInteger.ONE) : both[0];
        }

        static BigInteger within(BigInteger n, long least, long most) {
            return n.max(big(least)).min(big(most));
        }

        static List<BigInteger[]> made(int[][] corners, int[] view) {
            List<BigInteger[]> all = new ArrayList<>();
            for (int[] corner : corners) {
                BigInteger[] row = new BigInteger[32];
                for (int k = 0; k < 32; k++) {
                    row[k] = big(corner[k]);
                }
                all.add(row);
            }
            List<BigInteger[]> left = cut(cut(all, false), true);
            for (BigInteger[] row : left) {
                lay(row, view);
            }
            return left;
        }

        static BigInteger plane(BigInteger[] row, boolean eye) {
            return eye ? row[3].subtract(big(256)) : row[2].add(row[3]);
        }

        static List<BigInteger[]> cut(List<BigInteger[]> all, boolean eye) {
            List<BigInteger[]> left = new ArrayList<>();
            for (int c = 0; c < all.size(); c++) {
                BigInteger[] here = all.get(c);
                BigInteger[] next = all.get((c + 1) % all.size());
                boolean hereIn = plane(here, eye).signum() >= 0;
                boolean nextIn = plane(next, eye).signum() >= 0;
                if (hereIn) {
                    left.add(here.clone());
                }
                if (hereIn != nextIn) {
                    left.add(hereIn ? between(here, next, eye) : between(next, here, eye));
                }
            }
            return left.size() < 3 ? new ArrayList<>() : left;
        }

        static BigInteger[] between(BigInteger[] in, BigInteger[] off, boolean eye) {
            BigInteger a = plane(in, eye);
            BigInteger b = plane(off, eye);
            BigInteger f = down(ONE.multiply(a), a.subtract(b));
            BigInteger[] row = new BigInteger[32];
            for (int k = 0; k < 32; k++) {
                row[k] = in[k].add(down(off[k].subtract(in[k]).multiply(f), ONE));
            }
            return row;
        }

        static void lay(BigInteger[] row, int[] view) {
            BigInteger w = row[3];
            for (int k = 0; k < 2; k++) {
                BigInteger way = down(row[k].multiply(ONE), w).add(ONE);
                row[k] = within(big(16L * view[k]).add(down(way.multiply(big(view[2 + k])), big(8192))), -16384, 16383);
            }
            BigInteger way = down(row[2].multiply(ONE), w).add(ONE);
            BigInteger deep = big((long) view[5] - view[4]);
            row[2] = within(big(view[4]).add(down(way.multiply(deep), big(131072))), 0, 16777215);
            row[3] = down(big(1L << 30), w).max(BigInteger.ONE);
        }

        static long area(BigInteger[][] c) {
            BigInteger one = c[1][0].subtract(c[0][0]).multiply(c[2][1].subtract(c[0][1]));
            BigInteger two = c[2][0].subtract(c[0][0]).multiply(c[1][1].subtract(c[0][1]));
            return one.subtract(two).longValueExact();
        }

        static int side(long area, int out, boolean clock) {
            if (area == 0) {
                return -1;
            }
            boolean front = clock ? area < 0 : area > 0;
            if (front) {
                return out == 1 || out == 3 ? -1 : 0;
            }
            return out == 2 || out == 3 ? -1 : 1;
        }

        static int at(int[] words, BigInteger where) {
            return where.compareTo(big(4096)) < 0 ? words[where.intValueExact()] : 0;
        }

        static int[] bytes(int word) {
            return new int[] {word & 255, word >> 8 & 255, word >> 16 & 255, word >> 24 & 255};
        }

        static int[] halves(int word) {
            return new int[] {word & 65535, word >> 16 & 65535};
        }

        /** Of an attribute's from, step, parts and type. */
        static int fetched(int[] words, int[] attribute, int i, int k) {
            if (k >= attribute[2]) {
                return k == 3 ? 65536 : 0;
            }
            BigInteger p = big(attribute[0]).add(big(i).multiply(big(attribute[1])));
            int octet = bytes(at(words, p))[k];
            switch (attribute[3]) {
                case 0:
                    return at(words, p.add(big(k)));
                case 1:
                    return (octet * 65536 + 127) / 255;
                case 2:
                    int half = halves(at(words, p.add(big(k / 2))))[k % 2];
                    return (half >= 32768 ? half - 65536 : half) * 256;
                default:
                    return (octet >= 128 ? octet - 256 : octet) * 65536;
            }
        }

        static int index(int[] words, int type, int from, int k) {
            switch (type) {
                case 0:
                    return at(words, big(from).add(big(k)));
                case 1:
                    return halves(at(words, big(from).add(big(k / 2))))[k % 2];
                default:
                    return bytes(at(words, big(from).add(big(k / 4))))[k % 4];
            }
        }
    }
}
