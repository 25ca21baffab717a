/** What README.md tells of a use of the class: the example, call by call, and the new object. */
public final class ReadmeTest {
    private static final int DEEPEST = 16777215;

    private static final Due DUE = new Due();

    public static void main(String[] args) {
        VertexWork v = new VertexWork();
        reading(v);
        making(v);
        cutting(v);
        newObject();
        DUE.end();
    }

    private static void reading(VertexWork v) {
        DUE.is("word(5, 0x12345678)", v.word(5, 0x12345678), 0);
        v.attribute(0, 5, 1, 4, 1);
        DUE.is("fetch(0, 0, 2)", v.fetch(0, 0, 2), 13364);
        DUE.is("index(2, 5, 3)", v.index(2, 5, 3), 18);
        DUE.is("triangles(1, 5)", v.triangles(1, 5), 3);
        DUE.is("corner(1, 1, 0)", v.corner(1, 1, 0), 2);
    }

    private static void making(VertexWork v) {
        v.view(0, 0, 64, 64, 0, DEEPEST);
        v.faces(2, false);
        v.place(0, 0, 0, 0, 65536);
        v.place(1, 65536, 0, 0, 65536);
        v.place(2, 0, 65536, 0, 65536);
        v.vary(1, 0, 65536, 0, 0, 0);
        DUE.is("make()", v.make(), 1);
        DUE.is("side(0)", v.side(0), 0);
        DUE.is("area(0)", v.area(0), 262144);
        DUE.is("got(0, 1, 0)", v.got(0, 1, 0), 1024);
        DUE.is("got(0, 1, 4)", v.got(0, 1, 4), 65536);
    }

    private static void cutting(VertexWork v) {
        v.place(2, 0, 65536, -200000, 65536);
        DUE.outOfBounds("side(0) before make", () -> v.side(0));
        DUE.is("make() of the triangle that is cut", v.make(), 2);
        DUE.outOfBounds("side(2)", () -> v.side(2));
    }

    /** A new object answers as one does whose view and faces were set to what README.md says they are. */
    private static void newObject() {
        VertexWork left = Shapes.simple();
        VertexWork set = Shapes.simple();
        set.view(0, 0, 1, 1, 0, DEEPEST);
        set.faces(0, false);
        DUE.is("make() with the new view", left.make(), set.make());
        DUE.is("side(0) with the new faces", left.side(0), set.side(0));
        for (int what = 0; what < 32; what++) {
            DUE.is("got(0, 1, " + what + ") with the new view", left.got(0, 1, what), set.got(0, 1, what));
        }
    }
}
