/** The boundary cases of promises 8 to 12, each as a test of its own. */
public final class StepsBoundaryTest {
    public static void main(String[] args) {
        promise08Middle();
        promise08Ring();
        promise08Refused();
        promise09Ring();
        promise09NotFitting();
        promise09Refused();
        promise10Ring();
        promise10Refused();
        promise11Ring();
        promise11NotNeighbours();
        promise11Refused();
        promise11LeftFaces();
        promise12Ring();
        promise12NotFitting();
        promise12Refused();
        Check.end();
    }

    private static QuarryMesh triangleFrom(int a, int b) {
        QuarryMesh mesh = Shapes.triangle();
        mesh.move(0, a, 7, b);
        mesh.move(1, b, 7, a);
        return mesh;
    }

    private static void promise08Middle() {
        int[][] middles = {{0, 1, 0}, {0, -1, 0}, {-1, 2, 0}, {1, -2, 0}, {-1, -2, -1}, {0, -3, -1}, {0, 3, 1},
            {500, 500, 500}, {-500, -500, -500}, {500, -500, 0}, {499, 500, 499}, {-499, -500, -499}};
        for (int[] v : middles) {
            Boundary.answers("8 split: between " + v[0] + " and " + v[1] + ", cut towards 0", () -> triangleFrom(v[0], v[1]),
                    m -> m.split(0, 1) + ": " + Check.place(m, 3), "3: " + v[2] + " 7 " + v[2]);
        }
    }

    private static void promise08Ring() {
        Boundary.answers("8 split: (a, b) alone is in a FACE", Shapes::triangle,
                m -> m.split(0, 1) + ": " + Check.ring(m, 0), "3: 0 3 1 2");
        Boundary.answers("8 split: (b, a) alone is in a FACE", Shapes::triangle,
                m -> m.split(1, 0) + ": " + Check.ring(m, 0), "3: 0 3 1 2");
        Boundary.answers("8 split: behind the last one, (a, b)", Shapes::triangle,
                m -> m.split(2, 0) + ": " + Check.ring(m, 0), "3: 0 1 2 3");
        Boundary.answers("8 split: behind the last one, (b, a)", Shapes::triangle,
                m -> m.split(0, 2) + ": " + Check.ring(m, 0), "3: 0 1 2 3");
        Boundary.answers("8 split: both, behind the last one in one", Shapes::box,
                m -> m.split(0, 1) + ": " + Check.ring(m, 0) + ", " + Check.ring(m, 2), "8: 0 3 2 1 8, 0 8 1 5 4");
        Boundary.answers("8 split: up to 12 POINTS in a RING", () -> Shapes.polygon(11),
                m -> m.split(0, 1) + ": " + m.size(0), "11: 12");
        Boundary.answers("8 split: up to 12 POINTS in both RINGS", () -> Shapes.ringsOf(11, 11),
                m -> m.split(1, 0) + ": " + m.size(0) + " " + m.size(1), "20: 12 12");
        Boundary.answers("8 split: up to the 100th POINT", () -> Shapes.pointsUsed(Shapes.triangle(), 99),
                m -> m.split(1, 2), 99);
        Boundary.answers("8 split: no EDGE between them any more", Shapes::triangle,
                m -> m.split(0, 1) + " " + m.faceOf(0, 1) + " " + m.edges(), "3 -1 4");
    }

    private static void promise08Refused() {
        Boundary.refusesNoPair("8 split", 0, Shapes::triangle, (m, a, b) -> m.split(a, b));
        Boundary.refuses("8 split: a POINT and itself", Shapes::triangle, m -> m.split(0, 0), Check.ARGUMENT);
        Boundary.refuses("8 split: across a RING", Shapes::box, m -> m.split(0, 2), Check.ARGUMENT);
        Boundary.refuses("8 split: in no FACE", () -> Shapes.points(2), m -> m.split(0, 1), Check.ARGUMENT);
        Boundary.refuses("8 split: 13 POINTS in the RING with (a, b)", () -> Shapes.polygon(12),
                m -> m.split(0, 1), Check.STATE);
        Boundary.refuses("8 split: 13 POINTS in the RING with (b, a)", () -> Shapes.polygon(12),
                m -> m.split(1, 0), Check.STATE);
        Boundary.refuses("8 split: 13 POINTS in the first of two RINGS", () -> Shapes.ringsOf(12, 3),
                m -> m.split(0, 1), Check.STATE);
        Boundary.refuses("8 split: 13 POINTS in the second of two RINGS", () -> Shapes.ringsOf(3, 12),
                m -> m.split(0, 1), Check.STATE);
        Boundary.refuses("8 split: 13 POINTS in both RINGS", () -> Shapes.ringsOf(12, 12),
                m -> m.split(0, 1), Check.STATE);
        Boundary.answers("8 split: beside a RING of 12", () -> Shapes.ringsOf(12, 3), m -> m.split(0, 3), 13);
        Boundary.refuses("8 split: the 101st POINT", () -> Shapes.pointsUsed(Shapes.triangle(), 100),
                m -> m.split(1, 2), Check.STATE);
        Boundary.refuses("8 split: the argument ahead of the POINTS", () -> Shapes.pointsUsed(Shapes.box(), 100),
                m -> m.split(0, 2), Check.ARGUMENT);
        Boundary.refuses("8 split: the argument ahead of the RING", () -> Shapes.polygon(12),
                m -> m.split(0, 2), Check.ARGUMENT);
    }

    private static void cuts(int n, int a, int b, String own, String other) {
        Boundary.answers("9 cut: a RING of " + n + " from " + a + " to " + b, () -> Shapes.polygon(n),
                m -> m.cut(0, a, b) + ": " + Check.ring(m, 0) + ", " + Check.ring(m, 1), "1: " + own + ", " + other);
    }

    private static void promise09Ring() {
        cuts(4, 0, 2, "0 1 2", "2 3 0");
        cuts(4, 2, 0, "2 3 0", "0 1 2");
        cuts(4, 1, 3, "1 2 3", "3 0 1");
        cuts(4, 3, 1, "3 0 1", "1 2 3");
        cuts(5, 0, 3, "0 1 2 3", "3 4 0");
        cuts(12, 0, 2, "0 1 2", "2 3 4 5 6 7 8 9 10 11 0");
        cuts(12, 2, 0, "2 3 4 5 6 7 8 9 10 11 0", "0 1 2");
        cuts(12, 11, 1, "11 0 1", "1 2 3 4 5 6 7 8 9 10 11");
        cuts(12, 0, 10, "0 1 2 3 4 5 6 7 8 9 10", "10 11 0");
        cuts(12, 9, 3, "9 10 11 0 1 2 3", "3 4 5 6 7 8 9");
        Boundary.answers("9 cut: a second time", () -> Shapes.polygon(6),
                m -> m.cut(0, 0, 3) + " " + m.cut(1, 5, 3) + ": " + Check.ring(m, 1) + ", " + Check.ring(m, 2),
                "1 2: 5 0 3, 3 4 5");
        Boundary.answers("9 cut: up to the 160th FACE", () -> lastFace(159), m -> m.cut(158, 0, 2), 159);
        Boundary.answers("9 cut: both HALVES are in FACES", () -> Shapes.polygon(4),
                m -> m.cut(0, 0, 2) + ": " + m.faceOf(2, 0) + " " + m.faceOf(0, 2), "1: 0 1");
    }

    /** Four POINTS and the FACE 0 1 2 3, which is the last one of so many FACES ever. */
    private static QuarryMesh lastFace(int ever) {
        QuarryMesh mesh = Shapes.facesUsed(Shapes.points(4), ever - 1);
        mesh.face(0, 1, 2, 3);
        return mesh;
    }

    private static void promise09NotFitting() {
        Boundary.refusesNoFace("9 cut", () -> Shapes.polygon(4), (m, f) -> m.cut(f, 0, 2));
        Boundary.refusesNoFace("9 cut, not fitting either", () -> Shapes.polygon(4), (m, f) -> m.cut(f, 0, 0));
        for (int p : new int[] {-1, 4, 99, 100, Integer.MIN_VALUE, Integer.MAX_VALUE}) {
            Boundary.refuses("9 cut: a is not in its RING, " + p, () -> Shapes.polygon(4),
                    m -> m.cut(0, p, 1), Check.ARGUMENT);
            Boundary.refuses("9 cut: b is not in its RING, " + p, () -> Shapes.polygon(4),
                    m -> m.cut(0, 1, p), Check.ARGUMENT);
            Boundary.refuses("9 cut: neither is in its RING, " + p, () -> Shapes.polygon(4),
                    m -> m.cut(0, p, p), Check.ARGUMENT);
        }
        Boundary.refuses("9 cut: a is in another RING", Shapes::box, m -> m.cut(1, 0, 6), Check.ARGUMENT);
        Boundary.refuses("9 cut: b is in another RING", Shapes::box, m -> m.cut(1, 6, 0), Check.ARGUMENT);
        Boundary.refuses("9 cut: both are in another RING", Shapes::box, m -> m.cut(1, 0, 2), Check.ARGUMENT);
        Boundary.refuses("9 cut: a is GONE", StepsBoundaryTest::afterCollapse, m -> m.cut(0, 1, 3), Check.ARGUMENT);
        Boundary.refuses("9 cut: b is GONE", StepsBoundaryTest::afterCollapse, m -> m.cut(0, 3, 1), Check.ARGUMENT);
        for (int p = 0; p < 5; p++) {
            int a = p;
            int b = (p + 1) % 5;
            Boundary.refuses("9 cut: the same, place " + a, () -> Shapes.polygon(5),
                    m -> m.cut(0, a, a), Check.ARGUMENT);
            Boundary.refuses("9 cut: beside each other, " + a + " and " + b, () -> Shapes.polygon(5),
                    m -> m.cut(0, a, b), Check.ARGUMENT);
            Boundary.refuses("9 cut: beside each other, " + b + " and " + a, () -> Shapes.polygon(5),
                    m -> m.cut(0, b, a), Check.ARGUMENT);
        }
        Boundary.refuses("9 cut: a RING of 3", Shapes::triangle, m -> m.cut(0, 0, 2), Check.ARGUMENT);
        Boundary.refuses("9 cut: the last one and the first of 12", () -> Shapes.polygon(12),
                m -> m.cut(0, 11, 0), Check.ARGUMENT);
        Boundary.refuses("9 cut: the first one and the last of 12", () -> Shapes.polygon(12),
                m -> m.cut(0, 0, 11), Check.ARGUMENT);
    }

    /** A box in which 1 is GONE: FACE 0 is 0 3 2 then. */
    private static QuarryMesh afterCollapse() {
        QuarryMesh mesh = Shapes.box();
        mesh.collapse(0, 1);
        return mesh;
    }

    private static void promise09Refused() {
        int[][] taken = {{0, 2, 4}, {2, 0, 4}};
        for (int[] r : taken) {
            String half = "(" + r[0] + ", " + r[1] + ")";
            Boundary.refuses("9 cut: " + half + " alone is in a FACE", () -> squareAnd(r),
                    m -> m.cut(0, 0, 2), Check.STATE);
            Boundary.refuses("9 cut: " + half + " alone is in a FACE, from 2 to 0", () -> squareAnd(r),
                    m -> m.cut(0, 2, 0), Check.STATE);
            Boundary.answers("9 cut: " + half + " is in a FACE, the other way across", () -> squareAnd(r),
                    m -> m.cut(0, 1, 3), 2);
        }
        Boundary.refuses("9 cut: both HALVES are in FACES", () -> squareAnd(taken), m -> m.cut(0, 0, 2), Check.STATE);
        Boundary.refuses("9 cut: the 161st FACE", () -> lastFace(160), m -> m.cut(159, 0, 2), Check.STATE);
        Boundary.refuses("9 cut: not in its RING, ahead of the state", () -> lastFace(160),
                m -> m.cut(159, 0, 5), Check.ARGUMENT);
        Boundary.refuses("9 cut: the same, ahead of the state", () -> lastFace(160),
                m -> m.cut(159, 0, 0), Check.ARGUMENT);
        Boundary.refuses("9 cut: beside each other, ahead of the state", () -> lastFace(160),
                m -> m.cut(159, 3, 0), Check.ARGUMENT);
        Boundary.refuses("9 cut: no FACE, ahead of the state", () -> lastFace(160), m -> m.cut(0, 3, 0), Check.INDEX);
        Boundary.refuses("9 cut: not in its RING, ahead of a HALF in two FACES", () -> squareAnd(taken),
                m -> m.cut(0, 0, 4), Check.ARGUMENT);
    }

    /** FACE 0 1 2 3, and FACES of three. */
    private static QuarryMesh squareAnd(int[]... rings) {
        QuarryMesh mesh = Shapes.points(6);
        mesh.face(0, 1, 2, 3);
        for (int[] r : rings) {
            mesh.face(r[0], r[1], r[2], -1);
        }
        return mesh;
    }

    private static void promise10Ring() {
        Boundary.answers("10 join: 3 and 3", Shapes::twoTriangles,
                m -> m.join(0, 1) + ": " + Check.ring(m, 0), "0: 1 2 0 3");
        Boundary.answers("10 join: 3 and 3, the other way round", Shapes::twoTriangles,
                m -> m.join(1, 0) + ": " + Check.ring(m, 1), "1: 0 3 1 2");
        Boundary.answers("10 join: 12 POINTS of 7 and 7", () -> Shapes.ringsOf(7, 7),
                m -> m.join(0, 1) + ": " + m.size(0), "0: 12");
        Boundary.answers("10 join: 12 POINTS of 11 and 3", () -> Shapes.ringsOf(11, 3),
                m -> m.join(0, 1) + ": " + m.size(0), "0: 12");
        Boundary.answers("10 join: 12 POINTS of 3 and 11", () -> Shapes.ringsOf(3, 11),
                m -> m.join(0, 1) + ": " + m.size(0), "0: 12");
        Boundary.answers("10 join: over the ends of both RINGS", StepsBoundaryTest::endToEnd,
                m -> m.join(3, 0) + ": " + Check.ring(m, 0), "0: 0 1 2 3 4 5");
        Boundary.answers("10 join: the second one is GONE", Shapes::twoTriangles,
                m -> m.join(0, 1) + " " + Check.answer(() -> m.size(1)), "0 " + Check.INDEX);
        Boundary.answers("10 join: the number of the second one is not used again", Shapes::twoTriangles,
                m -> m.join(0, 1) + " " + m.cut(0, 1, 0), "0 2");
        Boundary.answers("10 join: the HALVES are in no FACE", Shapes::twoTriangles,
                m -> m.join(0, 1) + " " + m.faceOf(0, 1) + " " + m.faceOf(1, 0), "0 -1 -1");
        Boundary.answers("10 join: 160 FACES were there", () -> Shapes.facesUsed(Shapes.twoTriangles(), 160),
                m -> m.join(1, 0), 1);
    }

    /** FACES 0 1 2 3 and 0 3 4 5: (3, 0) goes from the last one to the first. */
    private static QuarryMesh endToEnd() {
        QuarryMesh mesh = Shapes.points(6);
        mesh.face(0, 1, 2, 3);
        mesh.face(0, 3, 4, 5);
        return mesh;
    }

    private static void promise10Refused() {
        Boundary.refusesNoPair("10 join", 0, Shapes::twoTriangles, (m, a, b) -> m.join(a, b));
        Boundary.refuses("10 join: (a, b) is in no FACE", Shapes::twoTriangles, m -> m.join(0, 2), Check.ARGUMENT);
        Boundary.refuses("10 join: (b, a) is in no FACE", Shapes::twoTriangles, m -> m.join(2, 0), Check.ARGUMENT);
        Boundary.refuses("10 join: neither is in a FACE", Shapes::twoTriangles, m -> m.join(2, 3), Check.ARGUMENT);
        Boundary.refuses("10 join: a POINT and itself", Shapes::twoTriangles, m -> m.join(0, 0), Check.ARGUMENT);
        Boundary.refuses("10 join: 13 POINTS of 7 and 8", () -> Shapes.ringsOf(7, 8), m -> m.join(0, 1), Check.STATE);
        Boundary.refuses("10 join: 13 POINTS of 12 and 3", () -> Shapes.ringsOf(12, 3), m -> m.join(0, 1), Check.STATE);
        Boundary.refuses("10 join: 13 POINTS of 3 and 12", () -> Shapes.ringsOf(3, 12), m -> m.join(0, 1), Check.STATE);
        Boundary.refuses("10 join: 22 POINTS", () -> Shapes.ringsOf(12, 12), m -> m.join(0, 1), Check.STATE);
        Boundary.refuses("10 join: all POINTS in common", Shapes::twoSides, m -> m.join(0, 1), Check.STATE);
        Boundary.refuses("10 join: another EDGE in common, behind it", () -> squareAndSquare(1, 0, 4, 2),
                m -> m.join(0, 1), Check.STATE);
        Boundary.refuses("10 join: another EDGE in common, ahead of it", () -> squareAndSquare(1, 0, 3, 4),
                m -> m.join(0, 1), Check.STATE);
        Boundary.refuses("10 join: another POINT in common, but no EDGE", () -> squareAndSquare(1, 0, 2, 4),
                m -> m.join(0, 1), Check.STATE);
        Boundary.refuses("10 join: the same, the other way round", () -> squareAndSquare(1, 0, 2, 4),
                m -> m.join(1, 0), Check.STATE);
    }

    /** FACE 0 1 2 3, and another one of four. */
    private static QuarryMesh squareAndSquare(int a, int b, int c, int d) {
        QuarryMesh mesh = Shapes.points(5);
        mesh.face(0, 1, 2, 3);
        mesh.face(a, b, c, d);
        return mesh;
    }

    private static void collapses(int a, int b, String want) {
        Boundary.answers("11 collapse: " + b + " to " + a + " in a RING of 4", () -> Shapes.polygon(4),
                m -> m.collapse(a, b) + ": " + Check.ring(m, 0), want);
    }

    private static void promise11Ring() {
        collapses(1, 0, "0: 1 2 3");
        collapses(0, 1, "0: 0 2 3");
        collapses(2, 1, "0: 0 2 3");
        collapses(2, 3, "0: 0 1 2");
        collapses(0, 3, "0: 0 1 2");
        collapses(3, 0, "0: 1 2 3");
        Boundary.answers("11 collapse: both, but apart", () -> squareAnd(new int[] {0, 2, 4}),
                m -> m.collapse(0, 2) + ": " + Check.ring(m, 0), "1: 0 1 3");
        Boundary.answers("11 collapse: both, but apart, b is the first one", () -> squareAnd(new int[] {0, 2, 4}),
                m -> m.collapse(2, 0) + ": " + Check.ring(m, 0), "1: 1 2 3");
        Boundary.answers("11 collapse: b alone, the first one", Shapes::bowTie,
                m -> m.collapse(1, 0) + ": " + Check.ring(m, 1), "1: 1 3 4");
        Boundary.answers("11 collapse: b alone, the last one", Shapes::box,
                m -> m.collapse(3, 7) + ": " + Check.ring(m, 1), "0: 4 5 6 3");
        Boundary.answers("11 collapse: in 12 POINTS", () -> Shapes.polygon(12),
                m -> m.collapse(11, 0) + ": " + Check.ring(m, 0), "0: 1 2 3 4 5 6 7 8 9 10 11");
        Boundary.answers("11 collapse: a FACE of 3 with both is GONE", Shapes::bowTie,
                m -> m.collapse(0, 1) + " " + Check.answer(() -> m.size(0)), "1 " + Check.INDEX);
        Boundary.answers("11 collapse: two FACES are GONE", Shapes::tetrahedron,
                m -> m.collapse(0, 1) + " " + m.faces(), "2 2");
        Boundary.answers("11 collapse: no FACE is GONE", Shapes::box, m -> m.collapse(0, 1) + " " + m.faces(), "0 6");
        Boundary.answers("11 collapse: b is GONE", Shapes::box,
                m -> m.collapse(0, 1) + " " + Check.answer(() -> m.at(1, 0)), "0 " + Check.INDEX);
        Boundary.answers("11 collapse: the number of b is not used again", Shapes::triangleAndSquare,
                m -> m.collapse(5, 6) + " " + m.point(1, 1, 1), "0 7");
        Boundary.answers("11 collapse: the number of a GONE FACE is not used again", Shapes::triangleAndSquare,
                m -> m.collapse(0, 1) + " " + m.face(0, 2, 3, -1), "1 2");
        Boundary.answers("11 collapse: a POINT in no FACE stays", Shapes::bowTie,
                m -> m.collapse(0, 1) + " " + m.points() + " " + m.around(2, 1), "1 4 0");
        Boundary.answers("11 collapse: a stays where it is", Shapes::box,
                m -> m.collapse(6, 5) + ": " + Check.place(m, 6), "0: 2 2 2");
        Boundary.answers("11 collapse: 160 FACES were there", () -> Shapes.facesUsed(Shapes.box(), 160),
                m -> m.collapse(6, 5), 0);
        Boundary.answers("11 collapse: 100 POINTS were there", () -> Shapes.pointsUsed(Shapes.box(), 100),
                m -> m.collapse(6, 5), 0);
        Boundary.answers("11 collapse: (a, b) alone is in a FACE", () -> Shapes.polygon(4),
                m -> m.faceOf(1, 0) + " " + m.collapse(0, 1), "-1 0");
        Boundary.answers("11 collapse: (b, a) alone is in a FACE", () -> Shapes.polygon(4),
                m -> m.faceOf(1, 0) + " " + m.collapse(1, 0), "-1 0");
    }

    private static void promise11NotNeighbours() {
        Boundary.refusesNoPair("11 collapse", 0, Shapes::twoTriangles, (m, a, b) -> m.collapse(a, b));
        Boundary.refuses("11 collapse: a POINT and itself", Shapes::box, m -> m.collapse(0, 0), Check.ARGUMENT);
        Boundary.refuses("11 collapse: across a RING", Shapes::box, m -> m.collapse(0, 2), Check.ARGUMENT);
        Boundary.refuses("11 collapse: in no FACE", () -> Shapes.points(2), m -> m.collapse(0, 1), Check.ARGUMENT);
        Boundary.refuses("11 collapse: the argument ahead of the state", Shapes::bowTie,
                m -> m.collapse(1, 3), Check.ARGUMENT);
        Boundary.refuses("11 collapse: b is GONE already", StepsBoundaryTest::afterCollapse,
                m -> m.collapse(0, 1), Check.INDEX);
    }

    private static void promise11Refused() {
        Boundary.refuses("11 collapse: a HALF of a FACE without b too", StepsBoundaryTest::threeTriangles,
                m -> m.collapse(0, 1), Check.STATE);
        Boundary.refuses("11 collapse: the same, the other way round", StepsBoundaryTest::threeTriangles,
                m -> m.collapse(1, 0), Check.STATE);
        Boundary.refuses("11 collapse: a HALF of two FACES with b", () -> squareAnd(new int[] {3, 1, 4}),
                m -> m.collapse(0, 3), Check.STATE);
        Boundary.refuses("11 collapse: a HALF of a FACE that loses b", () -> squareAnd(new int[] {3, 1, 4}),
                m -> m.collapse(3, 0), Check.STATE);
        Boundary.refuses("11 collapse: refused that way", Shapes::oneWay, m -> m.collapse(3, 1), Check.STATE);
        Boundary.answers("11 collapse: but not this way", Shapes::oneWay,
                m -> m.collapse(1, 3) + ": " + Check.ring(m, 2), "1: 2 1 0");
        Boundary.answers("11 collapse: a HALF of a FACE that is GONE by it", () -> squareAnd(new int[] {0, 2, 1}),
                m -> m.collapse(0, 1) + ": " + Check.ring(m, 0) + ", " + m.faceOf(0, 2), "1: 0 2 3, 0");
    }

    /** FACES 0 1 2, 0 3 4 and 1 3 5: with 0 and 1 as one, (0, 3) would be in two of them. */
    private static QuarryMesh threeTriangles() {
        QuarryMesh mesh = Shapes.points(6);
        mesh.face(0, 1, 2, -1);
        mesh.face(0, 3, 4, -1);
        mesh.face(1, 3, 5, -1);
        return mesh;
    }

    private static void promise11LeftFaces() {
        Boundary.refuses("11 collapse: the only FACE", Shapes::triangle, m -> m.collapse(0, 1), Check.STATE);
        Boundary.refuses("11 collapse: the only FACE, over its end", Shapes::triangle,
                m -> m.collapse(0, 2), Check.STATE);
        Boundary.refuses("11 collapse: both FACES", Shapes::twoTriangles, m -> m.collapse(0, 1), Check.STATE);
        Boundary.refuses("11 collapse: both sides", Shapes::twoSides, m -> m.collapse(2, 0), Check.STATE);
        Boundary.answers("11 collapse: one FACE is left", Shapes::twoTriangles,
                m -> m.collapse(0, 2) + " " + m.faces(), "1 1");
        Boundary.answers("11 collapse: a FACE far away is left", () -> {
            QuarryMesh mesh = Shapes.points(6);
            mesh.face(0, 1, 2, -1);
            mesh.face(3, 4, 5, -1);
            return mesh;
        }, m -> m.collapse(0, 1) + " " + m.faces(), "1 1");
        Boundary.refuses("11 collapse: GONE FACES are not left", () -> Shapes.facesUsed(Shapes.triangle(), 9),
                m -> m.collapse(0, 1), Check.STATE);
    }

    private static QuarryMesh trianglesAt(int c, int d) {
        QuarryMesh mesh = Shapes.points(Math.max(4, Math.max(c, d) + 1));
        mesh.face(1, 2, c, -1);
        mesh.face(2, 1, d, -1);
        return mesh;
    }

    private static void promise12Ring() {
        Boundary.answers("12 flip: c is 0", () -> trianglesAt(0, 3), m -> m.flip(1, 2), 3);
        Boundary.answers("12 flip: d is 0", () -> trianglesAt(0, 3), m -> m.flip(2, 1), 3000);
        Boundary.answers("12 flip: c is 99", () -> trianglesAt(99, 98), m -> m.flip(1, 2), 99098);
        Boundary.answers("12 flip: d is 99", () -> trianglesAt(99, 98), m -> m.flip(2, 1), 98099);
        Boundary.answers("12 flip: 160 FACES were there", () -> Shapes.facesUsed(Shapes.twoTriangles(), 160),
                m -> m.flip(0, 1), 2003);
        Boundary.answers("12 flip: the RINGS", Shapes::twoTriangles,
                m -> m.flip(0, 1) + ": " + Check.ring(m, 0) + ", " + Check.ring(m, 1), "2003: 2 3 1, 3 2 0");
        Boundary.answers("12 flip: over the end of a RING", () -> {
            QuarryMesh mesh = Shapes.points(4);
            mesh.face(1, 2, 0, -1);
            mesh.face(0, 3, 1, -1);
            return mesh;
        }, m -> m.flip(0, 1) + ": " + Check.ring(m, 0) + ", " + Check.ring(m, 1), "2003: 2 3 1, 3 2 0");
    }

    private static void promise12NotFitting() {
        Boundary.refusesNoPair("12 flip", 0, Shapes::twoTriangles, (m, a, b) -> m.flip(a, b));
        Boundary.refuses("12 flip: (a, b) is in no FACE", Shapes::twoTriangles, m -> m.flip(0, 2), Check.ARGUMENT);
        Boundary.refuses("12 flip: (b, a) is in no FACE", Shapes::twoTriangles, m -> m.flip(2, 0), Check.ARGUMENT);
        Boundary.refuses("12 flip: neither is in a FACE", Shapes::twoTriangles, m -> m.flip(2, 3), Check.ARGUMENT);
        Boundary.refuses("12 flip: a POINT and itself", Shapes::twoTriangles, m -> m.flip(0, 0), Check.ARGUMENT);
        Boundary.refuses("12 flip: 4 POINTS with (a, b)", () -> Shapes.ringsOf(4, 3),
                m -> m.flip(0, 1), Check.ARGUMENT);
        Boundary.refuses("12 flip: 4 POINTS with (b, a)", () -> Shapes.ringsOf(3, 4),
                m -> m.flip(0, 1), Check.ARGUMENT);
        Boundary.refuses("12 flip: 4 POINTS in both", () -> Shapes.ringsOf(4, 4), m -> m.flip(0, 1), Check.ARGUMENT);
        Boundary.refuses("12 flip: 12 POINTS", () -> Shapes.ringsOf(12, 3), m -> m.flip(0, 1), Check.ARGUMENT);
        Boundary.refuses("12 flip: the argument ahead of c is d", () -> squareAnd(new int[] {1, 0, 2}),
                m -> m.flip(0, 1), Check.ARGUMENT);
    }

    private static void promise12Refused() {
        Boundary.refuses("12 flip: c is d", Shapes::twoSides, m -> m.flip(0, 1), Check.STATE);
        Boundary.refuses("12 flip: c is d, over the end", Shapes::twoSides, m -> m.flip(2, 0), Check.STATE);
        Boundary.refuses("12 flip: (c, d) is in a FACE", () -> twoTrianglesAnd(2, 3), m -> m.flip(0, 1), Check.STATE);
        Boundary.refuses("12 flip: (d, c) is in a FACE", () -> twoTrianglesAnd(3, 2), m -> m.flip(0, 1), Check.STATE);
        Boundary.refuses("12 flip: both are in FACES", Shapes::tetrahedron, m -> m.flip(0, 1), Check.STATE);
        Boundary.answers("12 flip: FACES at c and d, but no EDGE between", () -> {
            QuarryMesh mesh = Shapes.twoTriangles();
            mesh.point(9, 9, 9);
            mesh.point(8, 9, 9);
            mesh.face(2, 4, 5, -1);
            mesh.face(3, 5, 4, -1);
            return mesh;
        }, m -> m.flip(0, 1), 2003);
    }

    private static QuarryMesh twoTrianglesAnd(int c, int d) {
        QuarryMesh mesh = Shapes.twoTriangles();
        mesh.face(c, d, mesh.point(9, 9, 9), -1);
        return mesh;
    }
}
