/** Promises 1 to 7. */
public final class PointsAndFacesTest {
    private static final int[] NO_POINTS = {-1, 3, 99, 100, 1000, Integer.MIN_VALUE, Integer.MAX_VALUE};

    public static void main(String[] args) {
        promise01New();
        promise02Point();
        promise03Move();
        promise04Face();
        promise04FaceLimit();
        promise05DropFace();
        promise06DropPoint();
        promise07Box();
        promise07BoxLimits();
        Check.end();
    }

    private static void promise01New() {
        QuarryMesh mesh = new QuarryMesh();
        Check.same("new: points()", mesh::points, 0);
        Check.same("new: edges()", mesh::edges, 0);
        Check.same("new: faces()", mesh::faces, 0);
        Check.same("new: at(0, 0)", () -> mesh.at(0, 0), Check.INDEX);
        Check.same("new: size(0)", () -> mesh.size(0), Check.INDEX);
        Check.same("new: point()", () -> mesh.point(0, 0, 0), 0);
        QuarryMesh other = new QuarryMesh();
        Check.same("new: nothing of another object", other::points, 0);
    }

    private static void promise02Point() {
        QuarryMesh mesh = new QuarryMesh();
        Check.same("point: the first", () -> mesh.point(-500, 500, 7), 0);
        Check.same("point: the second", () -> mesh.point(500, -500, -500), 1);
        Check.same("point: its place", () -> Check.place(mesh, 0), "-500 500 7");
        Check.same("point: its place", () -> Check.place(mesh, 1), "500 -500 -500");
        Check.refused("point: out of reach", mesh, Check.ARGUMENT,
                () -> mesh.point(501, 0, 0), () -> mesh.point(-501, 0, 0),
                () -> mesh.point(0, 501, 0), () -> mesh.point(0, -501, 0),
                () -> mesh.point(0, 0, 501), () -> mesh.point(0, 0, -501),
                () -> mesh.point(Integer.MIN_VALUE, 0, 0), () -> mesh.point(0, 0, Integer.MAX_VALUE));
        mesh.dropPoint(1);
        Check.same("point: a number is not used again", () -> mesh.point(0, 0, 0), 2);
        Shapes.usePoints(mesh, 99);
        Check.same("point: the 100th", () -> mesh.point(1, 1, 1), 99);
        mesh.dropPoint(5);
        Check.refused("point: 100 were there, GONE ones too", mesh, Check.STATE, () -> mesh.point(0, 0, 0));
        Check.refused("point: the argument ahead of the state", mesh, Check.ARGUMENT, () -> mesh.point(0, 501, 0));
    }

    private static void promise03Move() {
        QuarryMesh mesh = Shapes.triangle();
        Check.same("move: how far, squared", () -> mesh.move(1, 1, 2, -2), 17);
        Check.same("move: its place", () -> Check.place(mesh, 1), "1 2 -2");
        Check.same("move: the others stay", () -> Check.place(mesh, 0) + ", " + Check.place(mesh, 2), "0 0 0, 0 4 0");
        Check.same("move: to where it is", () -> mesh.move(1, 1, 2, -2), 0);
        mesh.move(2, -500, -500, -500);
        Check.same("move: the farthest", () -> mesh.move(2, 500, 500, 500), 3000000);
        Check.refused("move: out of reach", mesh, Check.ARGUMENT,
                () -> mesh.move(0, 501, 0, 0), () -> mesh.move(0, 0, -501, 0), () -> mesh.move(0, 0, 0, 501));
        for (int p : NO_POINTS) {
            Check.refused("move: no POINT " + p, mesh, Check.INDEX, () -> mesh.move(p, 0, 0, 0));
        }
        int gone = mesh.point(9, 9, 9);
        mesh.dropPoint(gone);
        Check.refused("move: a GONE one, ahead of the argument", mesh, Check.INDEX,
                () -> mesh.move(gone, 1, 1, 1), () -> mesh.move(gone, 501, 1, 1));
    }

    private static void promise04Face() {
        QuarryMesh mesh = Shapes.points(6);
        Check.same("face: of three", () -> mesh.face(2, 0, 1, -1), 0);
        Check.same("face: of four", () -> mesh.face(1, 0, 3, 4), 1);
        Check.same("face: its RING", () -> Check.ring(mesh, 0), "2 0 1");
        Check.same("face: its RING", () -> Check.ring(mesh, 1), "1 0 3 4");
        Check.refused("face: a POINT twice", mesh, Check.STATE,
                () -> mesh.face(3, 3, 5, -1), () -> mesh.face(3, 5, 3, -1), () -> mesh.face(5, 3, 3, -1),
                () -> mesh.face(3, 5, 2, 3), () -> mesh.face(5, 3, 2, 3), () -> mesh.face(5, 2, 3, 3));
        Check.refused("face: a HALF that is in a FACE", mesh, Check.STATE,
                () -> mesh.face(0, 1, 5, -1), () -> mesh.face(5, 0, 1, -1), () -> mesh.face(1, 5, 0, -1),
                () -> mesh.face(0, 5, 4, 1), () -> mesh.face(5, 4, 1, 2));
        for (int p : new int[] {-1, 6, 99, 100, Integer.MIN_VALUE, Integer.MAX_VALUE}) {
            Check.refused("face: no POINT " + p, mesh, Check.INDEX,
                    () -> mesh.face(p, 3, 5, -1), () -> mesh.face(3, p, 5, -1), () -> mesh.face(3, 5, p, -1));
        }
        Check.refused("face: no POINT for d", mesh, Check.INDEX,
                () -> mesh.face(3, 5, 2, -2), () -> mesh.face(3, 5, 2, 6), () -> mesh.face(3, 3, 3, 6));
        mesh.dropPoint(5);
        Check.refused("face: a GONE POINT", mesh, Check.INDEX,
                () -> mesh.face(5, 3, 2, -1), () -> mesh.face(3, 3, 2, 5));
        Check.same("face: the HALVES the other way round are free", () -> mesh.face(0, 2, 3, -1), 2);
    }

    private static void promise04FaceLimit() {
        QuarryMesh mesh = Shapes.points(4);
        Shapes.useFaces(mesh, 159);
        Check.same("face: the 160th", () -> mesh.face(0, 1, 2, -1), 159);
        Check.refused("face: 160 were there", mesh, Check.STATE,
                () -> mesh.face(2, 1, 0, -1), () -> mesh.face(0, 3, 1, -1));
        Check.refused("face: no POINT, ahead of the state", mesh, Check.INDEX, () -> mesh.face(0, 3, 50, -1));
    }

    private static void promise05DropFace() {
        QuarryMesh mesh = Shapes.twoTriangles();
        Check.same("dropFace: how many are left", () -> mesh.dropFace(0), 1);
        Check.same("dropFace: GONE", () -> mesh.size(0), Check.INDEX);
        Check.same("dropFace: the POINTS stay", mesh::points, 4);
        Check.same("dropFace: its HALVES are free", () -> mesh.faceOf(0, 1) + " " + mesh.faceOf(1, 2), "-1 -1");
        Check.same("dropFace: those of others are not", () -> mesh.faceOf(1, 0), 1);
        Check.refused("dropFace: no FACE", mesh, Check.INDEX,
                () -> mesh.dropFace(0), () -> mesh.dropFace(-1), () -> mesh.dropFace(2), () -> mesh.dropFace(159),
                () -> mesh.dropFace(160), () -> mesh.dropFace(Integer.MIN_VALUE),
                () -> mesh.dropFace(Integer.MAX_VALUE));
        Check.same("dropFace: a number is not used again", () -> mesh.face(0, 1, 2, -1), 2);
        Check.same("dropFace", () -> mesh.dropFace(1), 1);
        Check.same("dropFace: the last one", () -> mesh.dropFace(2), 0);
    }

    private static void promise06DropPoint() {
        QuarryMesh mesh = Shapes.triangle();
        mesh.point(1, 1, 1);
        Check.refused("dropPoint: in a FACE", mesh, Check.STATE,
                () -> mesh.dropPoint(0), () -> mesh.dropPoint(1), () -> mesh.dropPoint(2));
        Check.same("dropPoint: how many are left", () -> mesh.dropPoint(3), 3);
        for (int p : NO_POINTS) {
            Check.refused("dropPoint: no POINT " + p, mesh, Check.INDEX, () -> mesh.dropPoint(p));
        }
        mesh.dropFace(0);
        Check.same("dropPoint: its FACE is GONE", () -> mesh.dropPoint(1), 2);
        Check.same("dropPoint: GONE", () -> mesh.at(1, 0), Check.INDEX);
        Check.same("dropPoint: the others are there", () -> mesh.at(2, 1), 4);
    }

    private static void promise07Box() {
        QuarryMesh mesh = Shapes.triangle();
        Check.same("box: its first POINT", () -> mesh.box(-3, 5, 10, 4), 3);
        String[] places = {"-3 5 10", "1 5 10", "1 9 10", "-3 9 10", "-3 5 14", "1 5 14", "1 9 14", "-3 9 14"};
        for (int i = 0; i < 8; i++) {
            int p = 3 + i;
            Check.same("box: POINT " + p, () -> Check.place(mesh, p), places[i]);
        }
        String[] rings = {"3 6 5 4", "7 8 9 10", "3 4 8 7", "4 5 9 8", "5 6 10 9", "6 3 7 10"};
        for (int i = 0; i < 6; i++) {
            int f = 1 + i;
            Check.same("box: FACE " + f, () -> Check.ring(mesh, f), rings[i]);
        }
        Check.same("box: the greatest", () -> mesh.box(-500, 0, 0, 500), 11);
        Check.same("box: up to 500", () -> mesh.box(499, 499, 499, 1), 19);
        Check.refused("box: w", mesh, Check.ARGUMENT,
                () -> mesh.box(0, 0, 0, 0), () -> mesh.box(0, 0, 0, -1), () -> mesh.box(-500, -500, -500, 501),
                () -> mesh.box(0, 0, 0, Integer.MAX_VALUE), () -> mesh.box(0, 0, 0, Integer.MIN_VALUE));
        Check.refused("box: out of reach", mesh, Check.ARGUMENT,
                () -> mesh.box(-501, 0, 0, 1), () -> mesh.box(0, -501, 0, 1), () -> mesh.box(0, 0, -501, 1),
                () -> mesh.box(500, 0, 0, 1), () -> mesh.box(0, 500, 0, 1), () -> mesh.box(0, 0, 500, 1),
                () -> mesh.box(0, 0, 400, 101), () -> mesh.box(Integer.MAX_VALUE, 0, 0, 1));
    }

    private static void promise07BoxLimits() {
        QuarryMesh mesh = new QuarryMesh();
        Shapes.usePoints(mesh, 92);
        Check.same("box: up to the 100th POINT", () -> mesh.box(0, 0, 0, 1), 92);
        QuarryMesh full = new QuarryMesh();
        Shapes.usePoints(full, 93);
        Check.refused("box: more than 100 POINTS", full, Check.STATE, () -> full.box(0, 0, 0, 1));
        Check.refused("box: the argument ahead of the state", full, Check.ARGUMENT, () -> full.box(0, 0, 0, 0));
        QuarryMesh faces = new QuarryMesh();
        Shapes.useFaces(faces, 154);
        Check.same("box: up to the 160th FACE", () -> faces.box(0, 0, 0, 1), 3);
        Check.same("box: its last FACE", () -> Check.ring(faces, 159), "6 3 7 10");
        QuarryMesh more = new QuarryMesh();
        Shapes.useFaces(more, 155);
        Check.refused("box: more than 160 FACES", more, Check.STATE, () -> more.box(0, 0, 0, 1));
    }
}
