/** The boundary cases of section 1 (MESH) and of promises 1 to 7, each as a test of its own. */
public final class PointsAndFacesBoundaryTest {
    private static final int[] OUT = {-501, 501, Integer.MIN_VALUE, Integer.MAX_VALUE};
    private static final int[] ENDS = {-500, 500};

    public static void main(String[] args) {
        promise01Empty();
        promise01LastCall();
        promise02Reach();
        promise02Limit();
        promise03Reach();
        promise03NoPoint();
        promise04Ring();
        promise04TakenHalves();
        promise04NoPoint();
        promise04Limit();
        promise05();
        promise06();
        promise07Width();
        promise07Reach();
        promise07Limits();
        Check.end();
    }

    private static void promise01Empty() {
        Boundary.answers("1 empty: points()", QuarryMesh::new, QuarryMesh::points, 0);
        Boundary.answers("1 empty: edges()", QuarryMesh::new, QuarryMesh::edges, 0);
        Boundary.answers("1 empty: faces()", QuarryMesh::new, QuarryMesh::faces, 0);
        Boundary.answers("1 empty: holes()", QuarryMesh::new, QuarryMesh::holes, 0);
        Boundary.answers("1 empty: shells()", QuarryMesh::new, QuarryMesh::shells, 0);
        Boundary.answers("1 empty: volume()", QuarryMesh::new, QuarryMesh::volume, 0);
        Boundary.answers("1 empty: meanEdge()", QuarryMesh::new, QuarryMesh::meanEdge, 0.0);
        Boundary.answers("1 empty: smooth()", QuarryMesh::new, QuarryMesh::smooth, 0);
        Boundary.answers("1 empty: turn()", QuarryMesh::new, QuarryMesh::turn, 0);
        Boundary.answers("1 empty: quarters()", QuarryMesh::new, QuarryMesh::quarters, 0);
        Boundary.refuses("1 empty: no POINT 0", QuarryMesh::new, m -> m.at(0, 0), Check.INDEX);
        Boundary.refuses("1 empty: no FACE 0", QuarryMesh::new, m -> m.size(0), Check.INDEX);
        Boundary.answers("1: numbers start with 0 in each object", () -> {
            Shapes.box();
            return new QuarryMesh();
        }, m -> m.point(0, 0, 0), 0);
    }

    /** An object is used for at most 512 calls. */
    private static void promise01LastCall() {
        Boundary.answers("the 512th call is a question", () -> moved(511), m -> m.at(0, 0), 510 % 500);
        Boundary.answers("the 512th call is a step", () -> moved(511), m -> m.move(0, 12, 0, 0), 4);
        Boundary.answers("the 512th call is digest()", () -> digested(511), QuarryMesh::digest,
                Shapes.tetrahedron().digest());
    }

    /** So many calls in all, the last one of which moves the one POINT to (calls - 1) % 500. */
    private static QuarryMesh moved(int calls) {
        QuarryMesh mesh = new QuarryMesh();
        mesh.point(0, 0, 0);
        for (int i = 1; i < calls; i++) {
            mesh.move(0, i % 500, 0, 0);
        }
        return mesh;
    }

    private static QuarryMesh digested(int calls) {
        QuarryMesh mesh = Shapes.tetrahedron();
        for (int i = 8; i < calls; i++) {
            mesh.digest();
        }
        return mesh;
    }

    private static void promise02Reach() {
        for (int v : ENDS) {
            Boundary.answers("2 point: x " + v, QuarryMesh::new,
                    m -> m.point(v, 1, 2) + ": " + Check.place(m, 0), "0: " + v + " 1 2");
            Boundary.answers("2 point: y " + v, QuarryMesh::new,
                    m -> m.point(1, v, 2) + ": " + Check.place(m, 0), "0: 1 " + v + " 2");
            Boundary.answers("2 point: z " + v, QuarryMesh::new,
                    m -> m.point(1, 2, v) + ": " + Check.place(m, 0), "0: 1 2 " + v);
        }
        for (int v : OUT) {
            Boundary.refuses("2 point: x " + v, QuarryMesh::new, m -> m.point(v, 0, 0), Check.ARGUMENT);
            Boundary.refuses("2 point: y " + v, QuarryMesh::new, m -> m.point(0, v, 0), Check.ARGUMENT);
            Boundary.refuses("2 point: z " + v, QuarryMesh::new, m -> m.point(0, 0, v), Check.ARGUMENT);
        }
    }

    private static void promise02Limit() {
        Boundary.answers("2 point: the 100th", () -> usedPoints(99), m -> m.point(1, 2, 3), 99);
        Boundary.answers("2 point: the 100th is there", () -> usedPoints(100), QuarryMesh::points, 100);
        Boundary.refuses("2 point: the 101st", () -> usedPoints(100), m -> m.point(1, 2, 3), Check.STATE);
        Boundary.refuses("2 point: the 101st, one is GONE", () -> dropped(usedPoints(100), 0),
                m -> m.point(1, 2, 3), Check.STATE);
        Boundary.refuses("2 point: the 101st, the last one is GONE", () -> dropped(usedPoints(100), 99),
                m -> m.point(1, 2, 3), Check.STATE);
        Boundary.refuses("2 point: the argument ahead of the state", () -> usedPoints(100),
                m -> m.point(0, 0, 501), Check.ARGUMENT);
        Boundary.answers("2 point: a number is not used again", () -> dropped(usedPoints(5), 4),
                m -> m.point(1, 2, 3), 5);
        Boundary.answers("2 point: all are GONE", () -> dropped(usedPoints(1), 0), m -> m.point(1, 2, 3), 1);
    }

    private static QuarryMesh usedPoints(int ever) {
        return Shapes.pointsUsed(new QuarryMesh(), ever);
    }

    private static QuarryMesh dropped(QuarryMesh mesh, int point) {
        mesh.dropPoint(point);
        return mesh;
    }

    private static void promise03Reach() {
        for (int v : ENDS) {
            Boundary.answers("3 move: x " + v, Shapes::triangle,
                    m -> m.move(0, v, 0, 0) + ": " + Check.place(m, 0), "250000: " + v + " 0 0");
            Boundary.answers("3 move: y " + v, Shapes::triangle,
                    m -> m.move(0, 0, v, 0) + ": " + Check.place(m, 0), "250000: 0 " + v + " 0");
            Boundary.answers("3 move: z " + v, Shapes::triangle,
                    m -> m.move(0, 0, 0, v) + ": " + Check.place(m, 0), "250000: 0 0 " + v);
        }
        for (int v : OUT) {
            Boundary.refuses("3 move: x " + v, Shapes::triangle, m -> m.move(0, v, 0, 0), Check.ARGUMENT);
            Boundary.refuses("3 move: y " + v, Shapes::triangle, m -> m.move(0, 0, v, 0), Check.ARGUMENT);
            Boundary.refuses("3 move: z " + v, Shapes::triangle, m -> m.move(0, 0, 0, v), Check.ARGUMENT);
        }
        Boundary.answers("3 move: to where it is", Shapes::triangle, m -> m.move(1, 4, 0, 0), 0);
        Boundary.answers("3 move: by 1", Shapes::triangle, m -> m.move(1, 4, 0, -1), 1);
        Boundary.answers("3 move: from one end to the other", () -> atCorner(-500),
                m -> m.move(0, 500, 500, 500), 3000000);
        Boundary.answers("3 move: and back", () -> atCorner(500), m -> m.move(0, -500, -500, -500), 3000000);
    }

    private static QuarryMesh atCorner(int v) {
        QuarryMesh mesh = new QuarryMesh();
        mesh.point(v, v, v);
        return mesh;
    }

    private static void promise03NoPoint() {
        Boundary.refusesNoPoint("3 move", Shapes::triangle, (m, p) -> m.move(p, 1, 2, 3));
        Boundary.refusesNoPoint("3 move, no place either", Shapes::triangle, (m, p) -> m.move(p, 501, 2, 3));
        Boundary.answers("3 move: the 100th POINT", () -> usedPoints(100), m -> m.move(99, 1, 2, 2), 9);
        Boundary.refuses("3 move: no 101st", () -> usedPoints(100), m -> m.move(100, 1, 2, 2), Check.INDEX);
        Boundary.refuses("3 move: none at all", QuarryMesh::new, m -> m.move(0, 1, 2, 2), Check.INDEX);
    }

    private static void promise04Ring() {
        Boundary.answers("4 face: three", () -> Shapes.points(4),
                m -> m.face(3, 1, 0, -1) + ": " + Check.ring(m, 0), "0: 3 1 0");
        Boundary.answers("4 face: four", () -> Shapes.points(4),
                m -> m.face(3, 1, 0, 2) + ": " + Check.ring(m, 0), "0: 3 1 0 2");
        Boundary.answers("4 face: the HALF from the last to the first, of three", Shapes::triangle,
                m -> m.faceOf(2, 0), 0);
        Boundary.answers("4 face: the HALF from the last to the first, of four", Shapes::box, m -> m.faceOf(1, 0), 0);
        Boundary.answers("4 face: d of four is POINT 0", () -> Shapes.points(4),
                m -> m.face(1, 2, 3, 0) + ": " + Check.ring(m, 0), "0: 1 2 3 0");
        Boundary.answers("4 face: POINTS at one place", () -> usedPoints(3), m -> m.face(0, 1, 2, -1), 0);
        int[][] twice = {{0, 0, 1, -1}, {0, 1, 0, -1}, {1, 0, 0, -1}, {0, 0, 0, -1}, {0, 0, 1, 2}, {0, 1, 0, 2},
            {0, 1, 2, 0}, {1, 0, 0, 2}, {1, 0, 2, 0}, {1, 2, 0, 0}, {0, 1, 0, 1}, {0, 0, 0, 0}};
        for (int[] r : twice) {
            Boundary.refuses("4 face: none twice, " + r[0] + " " + r[1] + " " + r[2] + " " + r[3],
                    () -> Shapes.points(3), m -> m.face(r[0], r[1], r[2], r[3]), Check.STATE);
        }
    }

    private static void promise04TakenHalves() {
        int[][] taken = {{0, 1, 3, -1}, {3, 0, 1, -1}, {1, 3, 0, -1}, {1, 2, 4, -1}, {2, 0, 4, -1},
            {0, 1, 3, 4}, {3, 0, 1, 4}, {3, 4, 0, 1}, {1, 3, 4, 0}, {0, 1, 2, -1}, {1, 2, 0, -1}, {0, 1, 2, 3}};
        for (int[] r : taken) {
            Boundary.refuses("4 face: a HALF in two FACES, " + r[0] + " " + r[1] + " " + r[2] + " " + r[3],
                    PointsAndFacesBoundaryTest::triangleOfFive, m -> m.face(r[0], r[1], r[2], r[3]), Check.STATE);
        }
        Boundary.answers("4 face: all HALVES the other way round", PointsAndFacesBoundaryTest::triangleOfFive,
                m -> m.face(2, 1, 0, -1), 1);
        Boundary.answers("4 face: c to a is no HALF of four", PointsAndFacesBoundaryTest::triangleOfFive,
                m -> m.face(1, 3, 0, 4), 1);
        Boundary.answers("4 face: a POINT in common", PointsAndFacesBoundaryTest::triangleOfFive,
                m -> m.face(0, 3, 4, -1), 1);
        Boundary.answers("4 face: the HALVES of a GONE FACE", () -> {
            QuarryMesh mesh = triangleOfFive();
            mesh.dropFace(0);
            return mesh;
        }, m -> m.face(0, 1, 2, -1), 1);
    }

    /** FACE 0 1 2 and POINTS 3 and 4. */
    private static QuarryMesh triangleOfFive() {
        QuarryMesh mesh = Shapes.points(5);
        mesh.face(0, 1, 2, -1);
        return mesh;
    }

    private static void promise04NoPoint() {
        Boundary.refusesNoPoint("4 face, a", () -> Shapes.points(4), (m, p) -> m.face(p, 1, 2, -1));
        Boundary.refusesNoPoint("4 face, b", () -> Shapes.points(4), (m, p) -> m.face(0, p, 2, -1));
        Boundary.refusesNoPoint("4 face, c", () -> Shapes.points(4), (m, p) -> m.face(0, 1, p, -1));
        Boundary.refusesNoPoint("4 face, a of four", () -> Shapes.points(4), (m, p) -> m.face(p, 1, 2, 3));
        for (int d : new int[] {-2, 4, 99, 100, Integer.MIN_VALUE, Integer.MAX_VALUE}) {
            Boundary.refuses("4 face, d: no POINT " + d, () -> Shapes.points(4), m -> m.face(0, 1, 2, d), Check.INDEX);
            Boundary.refuses("4 face, d: no POINT " + d + ", and one twice", () -> Shapes.points(4),
                    m -> m.face(0, 0, 2, d), Check.INDEX);
        }
        Boundary.refuses("4 face, d: a GONE POINT", () -> dropped(Shapes.points(4), 3),
                m -> m.face(0, 1, 2, 3), Check.INDEX);
        Boundary.answers("4 face, d: -1 is no GONE POINT", () -> dropped(Shapes.points(4), 3),
                m -> m.face(0, 1, 2, -1), 0);
        Boundary.answers("4 face: the 100th POINT", () -> usedPoints(100), m -> m.face(99, 98, 97, 96), 0);
    }

    private static void promise04Limit() {
        Boundary.answers("4 face: the 160th", () -> usedFaces(159), m -> m.face(0, 1, 2, -1), 159);
        Boundary.refuses("4 face: the 161st, all others are GONE", () -> usedFaces(160),
                m -> m.face(0, 1, 2, -1), Check.STATE);
        Boundary.answers("4 face: 160 at one time", Shapes::crowded, QuarryMesh::faces, 160);
        Boundary.refuses("4 face: the 161st, none is GONE", Shapes::crowded, m -> m.face(90, 80, 60, -1), Check.STATE);
        Boundary.refuses("4 face: no POINT, ahead of the state", () -> usedFaces(160),
                m -> m.face(0, 1, 9, -1), Check.INDEX);
        Boundary.answers("4 face: a number is not used again", () -> usedFaces(5), m -> m.face(0, 1, 2, -1), 5);
    }

    private static QuarryMesh usedFaces(int ever) {
        return Shapes.facesUsed(new QuarryMesh(), ever);
    }

    private static void promise05() {
        Boundary.refusesNoFace("5 dropFace", Shapes::twoTriangles, (m, f) -> m.dropFace(f));
        Boundary.refuses("5 dropFace: none at all", QuarryMesh::new, m -> m.dropFace(0), Check.INDEX);
        Boundary.answers("5 dropFace: the last one left", Shapes::triangle, m -> m.dropFace(0), 0);
        Boundary.answers("5 dropFace: its POINTS stay", Shapes::triangle, m -> m.dropFace(0) + " " + m.points(), "0 3");
        Boundary.answers("5 dropFace: the 160th", Shapes::crowded, m -> m.dropFace(159), 159);
        Boundary.refuses("5 dropFace: no 161st", Shapes::crowded, m -> m.dropFace(160), Check.INDEX);
        Boundary.answers("5 dropFace: the HALF from the last to the first", Shapes::triangle,
                m -> m.dropFace(0) + " " + m.faceOf(2, 0), "0 -1");
    }

    private static void promise06() {
        Boundary.refusesNoPoint("6 dropPoint", () -> Shapes.points(4), (m, p) -> m.dropPoint(p));
        Boundary.refuses("6 dropPoint: none at all", QuarryMesh::new, m -> m.dropPoint(0), Check.INDEX);
        Boundary.answers("6 dropPoint: the last one left", () -> usedPoints(1), m -> m.dropPoint(0), 0);
        Boundary.answers("6 dropPoint: the 100th", () -> usedPoints(100), m -> m.dropPoint(99), 99);
        Boundary.refuses("6 dropPoint: no 101st", () -> usedPoints(100), m -> m.dropPoint(100), Check.INDEX);
        for (int p = 0; p < 3; p++) {
            int point = p;
            Boundary.refuses("6 dropPoint: in a FACE, place " + p, Shapes::triangle,
                    m -> m.dropPoint(point), Check.STATE);
        }
        Boundary.refuses("6 dropPoint: in one of two FACES that were", () -> {
            QuarryMesh mesh = Shapes.twoTriangles();
            mesh.dropFace(0);
            return mesh;
        }, m -> m.dropPoint(0), Check.STATE);
        Boundary.answers("6 dropPoint: in no FACE any more", () -> {
            QuarryMesh mesh = Shapes.twoTriangles();
            mesh.dropFace(0);
            return mesh;
        }, m -> m.dropPoint(2), 3);
    }

    private static void promise07Width() {
        Boundary.answers("7 box: the least", QuarryMesh::new,
                m -> m.box(0, 0, 0, 1) + ": " + Check.place(m, 6), "0: 1 1 1");
        Boundary.answers("7 box: the greatest", QuarryMesh::new,
                m -> m.box(0, 0, 0, 500) + ": " + Check.place(m, 6), "0: 500 500 500");
        Boundary.answers("7 box: the greatest, from -500", QuarryMesh::new,
                m -> m.box(-500, -500, -500, 500) + ": " + Check.place(m, 6), "0: 0 0 0");
        for (int w : new int[] {0, -1, 501, -500, Integer.MIN_VALUE, Integer.MAX_VALUE}) {
            Boundary.refuses("7 box: w " + w, QuarryMesh::new, m -> m.box(-400, -400, -400, w), Check.ARGUMENT);
        }
    }

    private static void promise07Reach() {
        Boundary.answers("7 box: x + w up to 500", QuarryMesh::new, m -> m.box(493, 0, 0, 7), 0);
        Boundary.answers("7 box: y + w up to 500", QuarryMesh::new, m -> m.box(0, 493, 0, 7), 0);
        Boundary.answers("7 box: z + w up to 500", QuarryMesh::new, m -> m.box(0, 0, 493, 7), 0);
        for (int v : new int[] {-501, 494, 500, 501, Integer.MIN_VALUE, Integer.MAX_VALUE, Integer.MAX_VALUE - 6}) {
            Boundary.refuses("7 box: x " + v, QuarryMesh::new, m -> m.box(v, 0, 0, 7), Check.ARGUMENT);
            Boundary.refuses("7 box: y " + v, QuarryMesh::new, m -> m.box(0, v, 0, 7), Check.ARGUMENT);
            Boundary.refuses("7 box: z " + v, QuarryMesh::new, m -> m.box(0, 0, v, 7), Check.ARGUMENT);
        }
    }

    private static void promise07Limits() {
        Boundary.answers("7 box: up to the 100th POINT", () -> usedPoints(92), m -> m.box(0, 0, 0, 1), 92);
        for (int ever = 93; ever <= 100; ever++) {
            int used = ever;
            Boundary.refuses("7 box: " + ever + " POINTS were there", () -> usedPoints(used),
                    m -> m.box(0, 0, 0, 1), Check.STATE);
        }
        Boundary.answers("7 box: up to the 160th FACE", () -> usedFaces(154),
                m -> m.box(0, 0, 0, 1) + ": " + Check.ring(m, 159), "3: 6 3 7 10");
        for (int ever = 155; ever <= 160; ever++) {
            int used = ever;
            Boundary.refuses("7 box: " + ever + " FACES were there", () -> usedFaces(used),
                    m -> m.box(0, 0, 0, 1), Check.STATE);
        }
        Boundary.refuses("7 box: w ahead of the POINTS", () -> usedPoints(100), m -> m.box(0, 0, 0, 0), Check.ARGUMENT);
        Boundary.refuses("7 box: the reach ahead of the FACES", () -> usedFaces(160),
                m -> m.box(0, 500, 0, 1), Check.ARGUMENT);
        Boundary.refuses("7 box: GONE POINTS count", () -> dropped(usedPoints(93), 0),
                m -> m.box(0, 0, 0, 1), Check.STATE);
    }
}
