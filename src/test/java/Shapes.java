/** Triangles that the tests start from. */
final class Shapes {
    static final int ONE = 65536;

    private Shapes() {
    }

    /** X and Y grow from corner 0 to 1 and from 0 to 2: the area is above 0. */
    static VertexWork simple() {
        VertexWork v = new VertexWork();
        v.place(0, 0, 0, 0, ONE);
        v.place(1, ONE, 0, 0, ONE);
        v.place(2, 0, ONE, 0, ONE);
        return v;
    }

    /** All three corners at one place, which then can be read as corner 0 of triangle 0. */
    static VertexWork spot(int x, int y, int z, int w) {
        VertexWork v = new VertexWork();
        for (int j = 0; j < 3; j++) {
            v.place(j, x, y, z, w);
        }
        return v;
    }
}
