/** Promises 18 to 28 in ordinary use; their boundary cases stand in BesideBoundaryTest. */
public final class BesideTest {
    public static void main(String[] args) {
        promise18Points();
        promise19Edges();
        promise20Faces();
        promise21Holes();
        promise22Shells();
        promise23At();
        promise24Size();
        promise25Corner();
        promise26FaceOf();
        promise27Hole();
        promise28Around();
        Check.end();
    }

    private static void promise18Points() {
        QuarryMesh mesh = Shapes.twoTriangles();
        Check.same("points", mesh::points, 4);
        mesh.collapse(0, 2);
        Check.same("points: without those that are GONE", mesh::points, 3);
        mesh.split(0, 1);
        Check.same("points: one more", mesh::points, 4);
    }

    private static void promise19Edges() {
        Check.same("edges: of a box", () -> Shapes.box().edges(), 12);
        Check.same("edges: with OPEN HALVES", () -> Shapes.twoTriangles().edges(), 5);
        Check.same("edges: both HALVES are one", () -> Shapes.twoSides().edges(), 3);
        Check.same("edges: at one POINT", () -> Shapes.bowTie().edges(), 6);
        QuarryMesh mesh = Shapes.box();
        mesh.dropFace(0);
        Check.same("edges: the others have them too", mesh::edges, 12);
        mesh.dropFace(2);
        Check.same("edges: one less", mesh::edges, 11);
        mesh.turn();
        Check.same("edges: turned", mesh::edges, 11);
    }

    private static void promise20Faces() {
        QuarryMesh mesh = Shapes.box();
        Check.same("faces", mesh::faces, 6);
        mesh.dropFace(3);
        Check.same("faces: without those that are GONE", mesh::faces, 5);
        mesh.fill(1, 2);
        Check.same("faces: one more", mesh::faces, 6);
    }

    private static void promise21Holes() {
        Check.same("holes: none", () -> Shapes.box().holes(), 0);
        Check.same("holes: around a FACE", () -> Shapes.triangle().holes(), 1);
        Check.same("holes: of two sides", () -> Shapes.twoSides().holes(), 0);
        Check.same("holes: two at one POINT", () -> Shapes.bowTie().holes(), 2);
        Check.same("holes: one that has a POINT twice", () -> Shapes.pinched().holes(), 1);
        QuarryMesh mesh = Shapes.box();
        mesh.dropFace(0);
        Check.same("holes: one", mesh::holes, 1);
        mesh.dropFace(1);
        Check.same("holes: two", mesh::holes, 2);
        mesh.dropFace(2);
        Check.same("holes: in one", mesh::holes, 1);
    }

    private static void promise22Shells() {
        Check.same("shells: none", () -> Shapes.points(3).shells(), 0);
        Check.same("shells: a FACE alone", () -> Shapes.triangle().shells(), 1);
        Check.same("shells: two at one POINT", () -> Shapes.bowTie().shells(), 2);
        Check.same("shells: one with two FANS", () -> Shapes.pinched().shells(), 1);
        QuarryMesh mesh = Shapes.box();
        mesh.box(5, 5, 5, 1);
        Check.same("shells: two boxes", mesh::shells, 2);
        for (int f = 2; f < 6; f++) {
            mesh.dropFace(f);
        }
        Check.same("shells: a box in two parts", mesh::shells, 3);
    }

    private static void promise23At() {
        QuarryMesh mesh = new QuarryMesh();
        mesh.point(-7, 8, 500);
        Check.same("at", () -> mesh.at(0, 0) + " " + mesh.at(0, 1) + " " + mesh.at(0, 2), "-7 8 500");
        mesh.dropPoint(0);
        Check.same("at: a GONE one", () -> mesh.at(0, 0), Check.INDEX);
    }

    private static void promise24Size() {
        QuarryMesh mesh = Shapes.box();
        mesh.cut(1, 4, 6);
        mesh.split(0, 1);
        Check.same("size", () -> mesh.size(1) + " " + mesh.size(2) + " " + mesh.size(3), "3 5 4");
        mesh.dropFace(3);
        Check.same("size: a GONE one", () -> mesh.size(3), Check.INDEX);
    }

    private static void promise25Corner() {
        QuarryMesh mesh = Shapes.box();
        Check.same("corner: the first", () -> mesh.corner(3, 0), 1);
        Check.same("corner: the last", () -> mesh.corner(3, 3), 5);
        mesh.cut(3, 1, 6);
        Check.same("corner: no place any more", () -> mesh.corner(3, 3), Check.INDEX);
        mesh.dropFace(3);
        Check.same("corner: a GONE FACE", () -> mesh.corner(3, 0), Check.INDEX);
    }

    private static void promise26FaceOf() {
        QuarryMesh mesh = Shapes.twoTriangles();
        Check.same("faceOf: both ways", () -> mesh.faceOf(0, 1) + " " + mesh.faceOf(1, 0), "0 1");
        Check.same("faceOf: from the last to the first", () -> mesh.faceOf(2, 0) + " " + mesh.faceOf(3, 1), "0 1");
        Check.same("faceOf: an OPEN one", () -> mesh.faceOf(0, 2), -1);
        Check.same("faceOf: no EDGE", () -> mesh.faceOf(2, 3), -1);
        Check.same("faceOf: one POINT", () -> mesh.faceOf(2, 2), -1);
        mesh.collapse(0, 2);
        Check.same("faceOf: a GONE POINT", () -> mesh.faceOf(0, 2), Check.INDEX);
    }

    private static void promise27Hole() {
        QuarryMesh mesh = Shapes.twoTriangles();
        Check.same("hole: how many HALVES", () -> mesh.hole(0, 2), 4);
        Check.same("hole: in a FACE", () -> mesh.hole(2, 0), 0);
        Check.same("hole: both are in FACES", () -> mesh.hole(0, 1), 0);
        Check.same("hole: no EDGE", () -> mesh.hole(2, 3), 0);
        Check.same("hole: one POINT", () -> mesh.hole(0, 0), 0);
        QuarryMesh pinched = Shapes.pinched();
        Check.same("hole: on at a POINT with two FANS", () -> pinched.hole(1, 0) + " " + pinched.hole(4, 0), "6 6");
        QuarryMesh tie = Shapes.bowTie();
        Check.same("hole: at a POINT with two FANS", () -> tie.hole(1, 0) + " " + tie.hole(0, 4), "3 3");
        mesh.collapse(0, 2);
        Check.same("hole: a GONE POINT", () -> mesh.hole(0, 2), Check.INDEX);
    }

    private static void promise28Around() {
        Check.same("around: a box", () -> around(Shapes.box(), 5), "3 3 0 1");
        Check.same("around: in no FACE", () -> around(Shapes.points(2), 1), "0 0 0 0");
        Check.same("around: a FACE alone", () -> around(Shapes.triangle(), 0), "2 1 1 1");
        Check.same("around: two sides", () -> around(Shapes.twoSides(), 0), "2 2 0 1");
        Check.same("around: two FANS", () -> around(Shapes.bowTie(), 0), "4 2 2 2");
        Check.same("around: two FANS of one SHELL", () -> around(Shapes.pinched(), 0), "4 2 2 2");
        Check.same("around: one FAN", () -> around(Shapes.pinched(), 2), "4 3 1 1");
        QuarryMesh mixed = Shapes.box();
        int p = mixed.point(9, 9, 9);
        int q = mixed.point(8, 9, 9);
        mixed.face(0, p, q, -1);
        Check.same("around: a closed FAN and an open one", () -> around(mixed, 0), "5 4 1 2");
        QuarryMesh wide = Shapes.points(8);
        int[][] rings = {{0, 7, 6}, {0, 6, 1}, {0, 1, 5}, {0, 5, 4}, {0, 4, 3}};
        for (int[] ring : rings) {
            wide.face(ring[0], ring[1], ring[2], -1);
        }
        Check.same("around: a FAN of five", () -> around(wide, 0), "6 5 1 1");
        wide.turn();
        Check.same("around: a FAN of five, turned", () -> around(wide, 0), "6 5 1 1");
        QuarryMesh gap = Shapes.pinched();
        gap.dropFace(2);
        Check.same("around: a FAN with a gap", () -> around(gap, 3), "4 2 2 2");
    }

    private static String around(QuarryMesh mesh, int p) {
        return mesh.around(p, 0) + " " + mesh.around(p, 1) + " " + mesh.around(p, 2) + " " + mesh.around(p, 3);
    }

}
