/** Promises 29 to 32. */
public final class MeasuresTest {
    private static final int[] NO_NUMBERS = {-1, 50, 99, 100, 159, 160, Integer.MIN_VALUE, Integer.MAX_VALUE};

    public static void main(String[] args) {
        promise29Normal();
        promise30Volume();
        promise30VolumeOfGreatMesh();
        promise31MeanEdge();
        promise32Steps();
        Check.end();
    }

    private static String normal(QuarryMesh mesh, int face) {
        return mesh.normal(face, 0) + " " + mesh.normal(face, 1) + " " + mesh.normal(face, 2);
    }

    private static void promise29Normal() {
        QuarryMesh mesh = Shapes.box();
        String[] normals = {"0 0 -8", "0 0 8", "0 -8 0", "8 0 0", "0 8 0", "-8 0 0"};
        for (int f = 0; f < 6; f++) {
            int face = f;
            Check.same("normal: of FACE " + f, () -> normal(mesh, face), normals[f]);
        }
        QuarryMesh slant = new QuarryMesh();
        slant.point(1, 0, 0);
        slant.point(0, 2, 0);
        slant.point(0, 0, 3);
        slant.face(0, 1, 2, -1);
        Check.same("normal: of a slant one", () -> normal(slant, 0), "6 3 2");
        Check.refused("normal: the axis", mesh, Check.ARGUMENT, () -> mesh.normal(0, -1), () -> mesh.normal(0, 3),
                () -> mesh.normal(0, Integer.MIN_VALUE), () -> mesh.normal(0, Integer.MAX_VALUE));
        for (int f : NO_NUMBERS) {
            Check.same("normal: no FACE " + f, () -> mesh.normal(f, 0), Check.INDEX);
            Check.same("normal: no FACE " + f + ", ahead of the axis", () -> mesh.normal(f, 3), Check.INDEX);
        }
        mesh.dropFace(0);
        Check.same("normal: a GONE one", () -> mesh.normal(0, 0), Check.INDEX);
    }

    private static void promise30Volume() {
        QuarryMesh mesh = Shapes.box();
        Check.same("volume: of a box", mesh::volume, 48);
        mesh.turn();
        Check.same("volume: turned", mesh::volume, -48);
        Check.same("volume: nothing", () -> new QuarryMesh().volume(), 0);
        Check.same("volume: of a tetrahedron", () -> Shapes.tetrahedron().volume(), 216);
        QuarryMesh one = new QuarryMesh();
        one.point(1, 0, 0);
        one.point(0, 2, 0);
        one.point(0, 0, 3);
        one.point(5, -1, 2);
        one.face(0, 1, 2, -1);
        Check.same("volume: of a FACE alone", one::volume, 6);
        one.dropFace(0);
        one.face(0, 1, 2, 3);
        Check.same("volume: of a FACE that is not flat, from the first POINT on", one::volume, 9);
        one.dropFace(1);
        one.face(1, 2, 3, 0);
        Check.same("volume: another first POINT", one::volume, 34);
    }

    private static void promise30VolumeOfGreatMesh() {
        QuarryMesh mesh = new QuarryMesh();
        mesh.box(0, 0, 0, 1);
        for (int p = 0; p < 8; p++) {
            mesh.move(p, mesh.at(p, 0) * 1000 - 500, mesh.at(p, 1) * 1000 - 500, mesh.at(p, 2) * 1000 - 500);
        }
        Check.same("volume: the greatest box", mesh::volume, 6000000000L);
        mesh.turn();
        Check.same("volume: turned", mesh::volume, -6000000000L);
    }

    private static void promise31MeanEdge() {
        Check.same("meanEdge: without any", () -> new QuarryMesh().meanEdge(), 0.0);
        Check.same("meanEdge: of a box", () -> Shapes.box().meanEdge(), 4.0);
        Check.same("meanEdge: not cut", () -> Shapes.triangle().meanEdge(), 64.0 / 3.0);
        Check.same("meanEdge: each EDGE once", () -> Shapes.twoTriangles().meanEdge(), 112.0 / 5.0);
        Check.same("meanEdge: each EDGE once", () -> Shapes.twoSides().meanEdge(), 64.0 / 3.0);
        QuarryMesh mesh = Shapes.triangle();
        mesh.dropFace(0);
        Check.same("meanEdge: without FACES", mesh::meanEdge, 0.0);
    }

    private static void promise32Steps() {
        QuarryMesh mesh = Shapes.box();
        mesh.point(1, 1, 1);
        Check.same("steps: none", () -> mesh.steps(3, 3), 0);
        Check.same("steps: one", () -> mesh.steps(0, 1) + " " + mesh.steps(1, 0), "1 1");
        Check.same("steps: across", () -> mesh.steps(0, 2) + " " + mesh.steps(0, 6) + " " + mesh.steps(6, 0), "2 3 3");
        Check.same("steps: no way", () -> mesh.steps(0, 8) + " " + mesh.steps(8, 0), "-1 -1");
        Check.same("steps: from a POINT in no FACE to itself", () -> mesh.steps(8, 8), 0);
        QuarryMesh line = Shapes.polygon(12);
        Check.same("steps: against the HALVES too", () -> line.steps(0, 11) + " " + line.steps(0, 6), "1 6");
        for (int p : NO_NUMBERS) {
            Check.same("steps: no POINT " + p, () -> mesh.steps(p, 0), Check.INDEX);
            Check.same("steps: no POINT " + p, () -> mesh.steps(0, p), Check.INDEX);
            Check.same("steps: no POINT " + p, () -> mesh.steps(p, p), Check.INDEX);
        }
        mesh.dropPoint(8);
        Check.same("steps: a GONE one", () -> mesh.steps(8, 8), Check.INDEX);
    }
}
