/** Boundary cases: each is one call on a mesh of its own, so that no case leans on another one. */
final class Boundary {
    interface Made {
        QuarryMesh make();
    }

    interface Asked {
        Object ask(QuarryMesh mesh);
    }

    interface AskedOfOne {
        Object ask(QuarryMesh mesh, int number);
    }

    interface AskedOfTwo {
        Object ask(QuarryMesh mesh, int a, int b);
    }

    private Boundary() {
    }

    static void answers(String what, Made made, Asked asked, Object want) {
        QuarryMesh mesh = made.make();
        Check.same(what, () -> asked.ask(mesh), want);
    }

    /** The call throws that, and from then on the mesh answers as its twin does, which was never called. */
    static void refuses(String what, Made made, Asked asked, String want) {
        QuarryMesh mesh = made.make();
        QuarryMesh twin = made.make();
        Check.same(what, () -> asked.ask(mesh), want);
        Check.same(what + ", nothing changed", () -> future(mesh), future(twin));
    }

    /** All that can be asked, and the numbers that the next POINTS and FACES get. */
    private static String future(QuarryMesh mesh) {
        Check.Call[] calls = {mesh::digest, () -> mesh.may(0), mesh::meanEdge, () -> mesh.point(1, 2, 3),
            () -> mesh.box(-9, -8, -7, 3), mesh::quarters, mesh::digest};
        StringBuilder text = new StringBuilder();
        for (Check.Call call : calls) {
            text.append(Check.answer(call)).append(' ');
        }
        return text.toString();
    }

    /** Every number that is no POINT; the mesh that is made has fewer than 99 of them, and none that is GONE. */
    static void refusesNoPoint(String what, Made made, AskedOfOne asked) {
        int[] numbers = {-1, made.make().points(), 99, 100, Integer.MIN_VALUE, Integer.MAX_VALUE};
        for (int p : numbers) {
            refuses(what + ": no POINT " + p, made, m -> asked.ask(m, p), Check.INDEX);
        }
        int gone = made.make().points();
        refuses(what + ": a GONE POINT", () -> withGonePoint(made), m -> asked.ask(m, gone), Check.INDEX);
    }

    private static QuarryMesh withGonePoint(Made made) {
        QuarryMesh mesh = made.make();
        mesh.dropPoint(mesh.point(5, 6, 7));
        return mesh;
    }

    /** Every number that is no POINT, as the first one, as the second one and as both; other is a POINT. */
    static void refusesNoPair(String what, int other, Made made, AskedOfTwo asked) {
        refusesNoPoint(what + ", the first", made, (m, p) -> asked.ask(m, p, other));
        refusesNoPoint(what + ", the second", made, (m, p) -> asked.ask(m, other, p));
        refusesNoPoint(what + ", both", made, (m, p) -> asked.ask(m, p, p));
    }

    /** Every number that is no FACE; the mesh that is made has fewer than 159 of them, and none that is GONE. */
    static void refusesNoFace(String what, Made made, AskedOfOne asked) {
        int[] numbers = {-1, made.make().faces(), 159, 160, Integer.MIN_VALUE, Integer.MAX_VALUE};
        for (int f : numbers) {
            refuses(what + ": no FACE " + f, made, m -> asked.ask(m, f), Check.INDEX);
        }
        refuses(what + ": a GONE FACE", () -> Shapes.without(made.make(), 0), m -> asked.ask(m, 0), Check.INDEX);
    }
}
