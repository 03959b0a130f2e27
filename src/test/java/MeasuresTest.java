/** Promises 29 to 32 in ordinary use; their boundary cases stand in MeasuresBoundaryTest. */
public final class MeasuresTest {
    public static void main(String[] args) {
        promise29Normal();
        promise30Volume();
        promise31MeanEdge();
        promise32Steps();
        Check.end();
    }

    private static String normal(QuarryMesh mesh, int face) {
        return mesh.normal(face, 0) + " " + mesh.normal(face, 1) + " " + mesh.normal(face, 2);
    }

    private static void promise29Normal() {
        QuarryMesh mesh = Shapes.box();
        String[] normals = {"0 0 -8", "0 0 8", "0 -8 0", "8 0 0", "0 8 0", "-8 0 0"};
        for (int f = 0; f < 6; f++) {
            int face = f;
            Check.same("normal: of FACE " + f, () -> normal(mesh, face), normals[f]);
        }
        QuarryMesh slant = new QuarryMesh();
        slant.point(1, 0, 0);
        slant.point(0, 2, 0);
        slant.point(0, 0, 3);
        slant.face(0, 1, 2, -1);
        Check.same("normal: of a slant one", () -> normal(slant, 0), "6 3 2");
        mesh.dropFace(0);
        Check.same("normal: a GONE one", () -> mesh.normal(0, 0), Check.INDEX);
    }

    private static void promise30Volume() {
        QuarryMesh mesh = Shapes.box();
        Check.same("volume: of a box", mesh::volume, 48);
        mesh.turn();
        Check.same("volume: turned", mesh::volume, -48);
        Check.same("volume: nothing", () -> new QuarryMesh().volume(), 0);
        Check.same("volume: of a tetrahedron", () -> Shapes.tetrahedron().volume(), 216);
        QuarryMesh one = new QuarryMesh();
        one.point(1, 0, 0);
        one.point(0, 2, 0);
        one.point(0, 0, 3);
        one.point(5, -1, 2);
        one.face(0, 1, 2, -1);
        Check.same("volume: of a FACE alone", one::volume, 6);
        one.dropFace(0);
        one.face(0, 1, 2, 3);
        Check.same("volume: of a FACE that is not flat, from the first POINT on", one::volume, 9);
        one.dropFace(1);
        one.face(1, 2, 3, 0);
        Check.same("volume: another first POINT", one::volume, 34);
    }

    private static void promise31MeanEdge() {
        Check.same("meanEdge: without any", () -> new QuarryMesh().meanEdge(), 0.0);
        Check.same("meanEdge: of a box", () -> Shapes.box().meanEdge(), 4.0);
        Check.same("meanEdge: not cut", () -> Shapes.triangle().meanEdge(), 64.0 / 3.0);
        Check.same("meanEdge: each EDGE once", () -> Shapes.twoTriangles().meanEdge(), 112.0 / 5.0);
        Check.same("meanEdge: each EDGE once", () -> Shapes.twoSides().meanEdge(), 64.0 / 3.0);
        QuarryMesh uneven = Shapes.twoTriangles();
        uneven.move(3, 7, -5, 1);
        Check.same("meanEdge: EDGES of all lengths", uneven::meanEdge, (16 + 32 + 16 + 75 + 35) / 5.0);
        QuarryMesh mesh = Shapes.triangle();
        mesh.dropFace(0);
        Check.same("meanEdge: without FACES", mesh::meanEdge, 0.0);
    }

    private static void promise32Steps() {
        QuarryMesh mesh = Shapes.box();
        mesh.point(1, 1, 1);
        Check.same("steps: none", () -> mesh.steps(3, 3), 0);
        Check.same("steps: one", () -> mesh.steps(0, 1) + " " + mesh.steps(1, 0), "1 1");
        Check.same("steps: across", () -> mesh.steps(0, 2) + " " + mesh.steps(0, 6) + " " + mesh.steps(6, 0), "2 3 3");
        Check.same("steps: no way", () -> mesh.steps(0, 8) + " " + mesh.steps(8, 0), "-1 -1");
        Check.same("steps: from a POINT in no FACE to itself", () -> mesh.steps(8, 8), 0);
        QuarryMesh line = Shapes.polygon(12);
        Check.same("steps: against the HALVES too", () -> line.steps(0, 11) + " " + line.steps(0, 6), "1 6");
        mesh.dropPoint(8);
        Check.same("steps: a GONE one", () -> mesh.steps(8, 8), Check.INDEX);
    }
}
