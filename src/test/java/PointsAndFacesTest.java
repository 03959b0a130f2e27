/** Promises 1 to 7 in ordinary use; their boundary cases stand in PointsAndFacesBoundaryTest. */
public final class PointsAndFacesTest {
    public static void main(String[] args) {
        promise01New();
        promise02Point();
        promise03Move();
        promise04Face();
        promise05DropFace();
        promise06DropPoint();
        promise07Box();
        Check.end();
    }

    private static void promise01New() {
        QuarryMesh mesh = new QuarryMesh();
        Check.same("new: points()", mesh::points, 0);
        Check.same("new: edges()", mesh::edges, 0);
        Check.same("new: faces()", mesh::faces, 0);
        Check.same("new: at(0, 0)", () -> mesh.at(0, 0), Check.INDEX);
        Check.same("new: size(0)", () -> mesh.size(0), Check.INDEX);
        Check.same("new: point()", () -> mesh.point(0, 0, 0), 0);
        QuarryMesh other = new QuarryMesh();
        Check.same("new: nothing of another object", other::points, 0);
    }

    private static void promise02Point() {
        QuarryMesh mesh = new QuarryMesh();
        Check.same("point: the first", () -> mesh.point(-500, 500, 7), 0);
        Check.same("point: the second", () -> mesh.point(500, -500, -500), 1);
        Check.same("point: its place", () -> Check.place(mesh, 0), "-500 500 7");
        Check.same("point: its place", () -> Check.place(mesh, 1), "500 -500 -500");
        mesh.dropPoint(1);
        Check.same("point: a number is not used again", () -> mesh.point(0, 0, 0), 2);
    }

    private static void promise03Move() {
        QuarryMesh mesh = Shapes.triangle();
        Check.same("move: how far, squared", () -> mesh.move(1, 1, 2, -2), 17);
        Check.same("move: its place", () -> Check.place(mesh, 1), "1 2 -2");
        Check.same("move: the others stay", () -> Check.place(mesh, 0) + ", " + Check.place(mesh, 2), "0 0 0, 0 4 0");
        Check.same("move: each axis by itself", () -> mesh.move(1, 5, 3, -9), 16 + 1 + 49);
        Check.same("move: to where it is", () -> mesh.move(1, 5, 3, -9), 0);
    }

    private static void promise04Face() {
        QuarryMesh mesh = Shapes.points(6);
        Check.same("face: of three", () -> mesh.face(2, 0, 1, -1), 0);
        Check.same("face: of four", () -> mesh.face(1, 0, 3, 4), 1);
        Check.same("face: its RING", () -> Check.ring(mesh, 0), "2 0 1");
        Check.same("face: its RING", () -> Check.ring(mesh, 1), "1 0 3 4");
        Check.same("face: the HALVES the other way round are free", () -> mesh.face(0, 2, 3, -1), 2);
    }

    private static void promise05DropFace() {
        QuarryMesh mesh = Shapes.twoTriangles();
        Check.same("dropFace: how many are left", () -> mesh.dropFace(0), 1);
        Check.same("dropFace: GONE", () -> mesh.size(0), Check.INDEX);
        Check.same("dropFace: the POINTS stay", mesh::points, 4);
        Check.same("dropFace: its HALVES are free", () -> mesh.faceOf(0, 1) + " " + mesh.faceOf(1, 2), "-1 -1");
        Check.same("dropFace: those of others are not", () -> mesh.faceOf(1, 0), 1);
        Check.same("dropFace: a number is not used again", () -> mesh.face(0, 1, 2, -1), 2);
        Check.same("dropFace", () -> mesh.dropFace(1), 1);
        Check.same("dropFace: the last one", () -> mesh.dropFace(2), 0);
    }

    private static void promise06DropPoint() {
        QuarryMesh mesh = Shapes.triangle();
        mesh.point(1, 1, 1);
        Check.same("dropPoint: how many are left", () -> mesh.dropPoint(3), 3);
        mesh.dropFace(0);
        Check.same("dropPoint: its FACE is GONE", () -> mesh.dropPoint(1), 2);
        Check.same("dropPoint: GONE", () -> mesh.at(1, 0), Check.INDEX);
        Check.same("dropPoint: the others are there", () -> mesh.at(2, 1), 4);
    }

    private static void promise07Box() {
        QuarryMesh mesh = Shapes.triangle();
        Check.same("box: its first POINT", () -> mesh.box(-3, 5, 10, 4), 3);
        String[] places = {"-3 5 10", "1 5 10", "1 9 10", "-3 9 10", "-3 5 14", "1 5 14", "1 9 14", "-3 9 14"};
        for (int i = 0; i < 8; i++) {
            int p = 3 + i;
            Check.same("box: POINT " + p, () -> Check.place(mesh, p), places[i]);
        }
        String[] rings = {"3 6 5 4", "7 8 9 10", "3 4 8 7", "4 5 9 8", "5 6 10 9", "6 3 7 10"};
        for (int i = 0; i < 6; i++) {
            int f = 1 + i;
            Check.same("box: FACE " + f, () -> Check.ring(mesh, f), rings[i]);
        }
    }
}
