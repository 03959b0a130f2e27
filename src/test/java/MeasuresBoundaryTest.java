import java.math.BigInteger;

/** The boundary cases of promises 29 to 36, each as a test of its own. */
public final class MeasuresBoundaryTest {
    private static final int[] FAR = {Integer.MIN_VALUE, Integer.MAX_VALUE};

    public static void main(String[] args) {
        promise29();
        promise29Refused();
        promise30();
        promise31();
        promise32();
        promise33();
        promise33Collapse();
        promise33FlipAndJoin();
        promise34();
        promise34Refused();
        promise35();
        promise36();
        promise36Wrap();
        Check.end();
    }

    /** The box of all that is in reach, turned or not. */
    private static QuarryMesh greatBox(boolean turned) {
        QuarryMesh mesh = Shapes.box();
        for (int p = 0; p < 8; p++) {
            mesh.move(p, mesh.at(p, 0) * 500 - 500, mesh.at(p, 1) * 500 - 500, mesh.at(p, 2) * 500 - 500);
        }
        if (turned) {
            mesh.turn();
        }
        return mesh;
    }

    private static QuarryMesh flat(int v) {
        QuarryMesh mesh = new QuarryMesh();
        for (int i = 0; i < 3; i++) {
            mesh.point(v * i, v * i, v * i);
        }
        mesh.face(0, 1, 2, -1);
        return mesh;
    }

    private static void promise29() {
        Boundary.answers("29 normal: axis 0, behind it 1 and 2", Shapes::box, m -> m.normal(3, 0), 8);
        Boundary.answers("29 normal: axis 1, behind it 2 and 0", Shapes::box, m -> m.normal(4, 1), 8);
        Boundary.answers("29 normal: axis 2, behind it 0 and 1", Shapes::box, m -> m.normal(1, 2), 8);
        Boundary.answers("29 normal: the other way", Shapes::box, m -> m.normal(0, 2), -8);
        Boundary.answers("29 normal: along the FACE", Shapes::box, m -> m.normal(0, 1), 0);
        Boundary.answers("29 normal: all POINTS at one place", () -> flat(0), m -> m.normal(0, 0), 0);
        Boundary.answers("29 normal: all POINTS in one line", () -> flat(7), m -> m.normal(0, 1), 0);
        Boundary.answers("29 normal: the greatest", () -> greatBox(false), m -> m.normal(1, 2), 2000000);
        Boundary.answers("29 normal: the least", () -> greatBox(true), m -> m.normal(1, 2), -2000000);
        Boundary.answers("29 normal: the last POINT with the first one", () -> {
            QuarryMesh mesh = new QuarryMesh();
            mesh.point(3, 4, 0);
            mesh.point(0, 0, 9);
            mesh.point(5, 6, 0);
            mesh.face(0, 1, 2, -1);
            return mesh;
        }, m -> m.normal(0, 2), 5 * 4 - 6 * 3);
        Boundary.answers("29 normal: 12 POINTS", () -> Shapes.polygon(12), m -> m.normal(0, 2), 16);
    }

    private static void promise29Refused() {
        Boundary.refusesNoFace("29 normal", Shapes::twoTriangles, (m, f) -> m.normal(f, 0));
        Boundary.refusesNoFace("29 normal, no axis either", Shapes::twoTriangles, (m, f) -> m.normal(f, 3));
        Boundary.refuses("29 normal: axis -1", Shapes::triangle, m -> m.normal(0, -1), Check.ARGUMENT);
        Boundary.refuses("29 normal: axis 3", Shapes::triangle, m -> m.normal(0, 3), Check.ARGUMENT);
        for (int far : FAR) {
            Boundary.refuses("29 normal: axis " + far, Shapes::triangle, m -> m.normal(0, far), Check.ARGUMENT);
        }
    }

    private static QuarryMesh spread(int d) {
        QuarryMesh mesh = new QuarryMesh();
        mesh.point(1, 0, 0);
        mesh.point(0, 2, 0);
        mesh.point(0, 0, 3);
        mesh.point(5, -1, 2);
        mesh.face(0, 1, 2, d);
        return mesh;
    }

    private static void promise30() {
        Boundary.answers("30 volume: nothing at all", QuarryMesh::new, QuarryMesh::volume, 0);
        Boundary.answers("30 volume: POINTS without FACES", () -> Shapes.points(5), QuarryMesh::volume, 0);
        Boundary.answers("30 volume: all FACES are GONE", () -> Shapes.without(spread(-1), 0), QuarryMesh::volume, 0);
        Boundary.answers("30 volume: a RING of 3, one q", () -> spread(-1), QuarryMesh::volume, 6);
        Boundary.answers("30 volume: a RING of 4, two q", () -> spread(3), QuarryMesh::volume, 9);
        Boundary.answers("30 volume: a RING of 12, ten q", MeasuresBoundaryTest::raisedTwelve, QuarryMesh::volume, 160);
        Boundary.answers("30 volume: more than an int holds", () -> greatBox(false), QuarryMesh::volume, 6000000000L);
        Boundary.answers("30 volume: less than an int holds", () -> greatBox(true), QuarryMesh::volume, -6000000000L);
        Boundary.answers("30 volume: two sides", Shapes::twoSides, QuarryMesh::volume, 0);
    }

    /** The FACE of 12 with all z at 10: 10 times what normal() tells of it. */
    private static QuarryMesh raisedTwelve() {
        QuarryMesh mesh = Shapes.polygon(12);
        for (int p = 0; p < 12; p++) {
            mesh.move(p, mesh.at(p, 0), mesh.at(p, 1), 10);
        }
        return mesh;
    }

    private static void promise31() {
        Boundary.answers("31 meanEdge: nothing at all", QuarryMesh::new, QuarryMesh::meanEdge, 0.0);
        Boundary.answers("31 meanEdge: POINTS without FACES", () -> Shapes.points(5), QuarryMesh::meanEdge, 0.0);
        Boundary.answers("31 meanEdge: all FACES are GONE", () -> Shapes.without(Shapes.triangle(), 0),
                QuarryMesh::meanEdge, 0.0);
        Boundary.answers("31 meanEdge: all POINTS at one place", () -> flat(0), QuarryMesh::meanEdge, 0.0);
        Boundary.answers("31 meanEdge: not cut", Shapes::triangle, QuarryMesh::meanEdge, 64.0 / 3.0);
        Boundary.answers("31 meanEdge: less than 1, not cut", () -> {
            QuarryMesh mesh = flat(0);
            mesh.move(0, 0, 0, 1);
            return mesh;
        }, QuarryMesh::meanEdge, 2.0 / 3.0);
        Boundary.answers("31 meanEdge: without EDGES any more, a POINT GONE", () -> {
            QuarryMesh mesh = Shapes.without(Shapes.triangle(), 0);
            mesh.dropPoint(1);
            return mesh;
        }, QuarryMesh::meanEdge, 0.0);
        Boundary.answers("31 meanEdge: both HALVES in FACES once", Shapes::twoTriangles,
                QuarryMesh::meanEdge, 112.0 / 5.0);
        Boundary.answers("31 meanEdge: the greatest", MeasuresBoundaryTest::toAndFro, QuarryMesh::meanEdge, 3000000.0);
    }

    /** A FACE of 4, each EDGE of which goes from one end of all that is in reach to the other. */
    private static QuarryMesh toAndFro() {
        QuarryMesh mesh = new QuarryMesh();
        for (int v : new int[] {-500, 500, -500, 500}) {
            mesh.point(v, v, v);
        }
        mesh.face(0, 1, 2, 3);
        return mesh;
    }

    private static void promise32() {
        Boundary.refusesNoPair("32 steps", 0, Shapes::triangle, (m, a, b) -> m.steps(a, b));
        Boundary.answers("32 steps: from a POINT to itself", Shapes::triangle, m -> m.steps(1, 1), 0);
        Boundary.answers("32 steps: from a POINT in no FACE to itself", () -> Shapes.points(1), m -> m.steps(0, 0), 0);
        Boundary.answers("32 steps: to a NEIGHBOUR", Shapes::triangle, m -> m.steps(0, 1), 1);
        Boundary.answers("32 steps: to a NEIGHBOUR, against the HALF", () -> Shapes.polygon(12), m -> m.steps(1, 0), 1);
        Boundary.answers("32 steps: over the end of a RING", () -> Shapes.polygon(12), m -> m.steps(0, 11), 1);
        Boundary.answers("32 steps: half round a RING of 12", () -> Shapes.polygon(12), m -> m.steps(3, 9), 6);
        Boundary.answers("32 steps: not across a RING", Shapes::box, m -> m.steps(0, 2), 2);
        Boundary.answers("32 steps: no way from a POINT in no FACE", Shapes::bowTie,
                m -> m.steps(m.point(1, 1, 1), 0), -1);
        Boundary.answers("32 steps: no way to a POINT in no FACE", Shapes::bowTie,
                m -> m.steps(0, m.point(1, 1, 1)), -1);
        Boundary.answers("32 steps: no way to another SHELL", MeasuresBoundaryTest::twoAlone, m -> m.steps(0, 3), -1);
        Boundary.answers("32 steps: over a POINT in two FANS", Shapes::bowTie, m -> m.steps(1, 3), 2);
        Boundary.answers("32 steps: 49", () -> Shapes.chain(49), m -> m.steps(0, 98), 49);
        Boundary.answers("32 steps: 49 back", () -> Shapes.chain(49), m -> m.steps(98, 0), 49);
        Boundary.answers("32 steps: to the 100th POINT", () -> Shapes.closedFan(99), m -> m.steps(50, 99), 2);
        Boundary.answers("32 steps: a second time", () -> Shapes.chain(9),
                m -> m.steps(0, 18) + " " + m.steps(18, 4), "9 7");
        Boundary.answers("32 steps: behind shells()", () -> Shapes.chain(9),
                m -> m.shells() + " " + m.steps(18, 4), "9 7");
        Boundary.answers("32 steps: the way is GONE", () -> Shapes.without(Shapes.chain(3), 1), m -> m.steps(0, 6), -1);
    }

    private static QuarryMesh twoAlone() {
        QuarryMesh mesh = Shapes.points(6);
        mesh.face(0, 1, 2, -1);
        mesh.face(3, 4, 5, -1);
        return mesh;
    }

    private static void promise33() {
        Boundary.refuses("33 may: what -1", Shapes::box, m -> m.may(-1), Check.ARGUMENT);
        Boundary.refuses("33 may: what 3", Shapes::box, m -> m.may(3), Check.ARGUMENT);
        for (int far : FAR) {
            Boundary.refuses("33 may: what " + far, Shapes::box, m -> m.may(far), Check.ARGUMENT);
        }
        for (int what = 0; what <= 2; what++) {
            int kind = what;
            Boundary.answers("33 may(" + what + "): nothing at all", QuarryMesh::new, m -> m.may(kind), 0);
            Boundary.answers("33 may(" + what + "): POINTS without FACES", () -> Shapes.points(5), m -> m.may(kind), 0);
            Boundary.answers("33 may(" + what + "): all FACES are GONE", () -> Shapes.without(Shapes.box(), 0, 1, 2, 3, 4, 5),
                    m -> m.may(kind), 0);
            Boundary.answers("33 may(" + what + "): a FACE alone", Shapes::triangle, m -> m.may(kind), 0);
        }
    }

    private static void promise33Collapse() {
        Boundary.answers("33 may(0): a FACE of 4 alone, both ways", () -> Shapes.polygon(4), m -> m.may(0), 8);
        Boundary.answers("33 may(0): no FACE left over one EDGE of five", Shapes::twoTriangles, m -> m.may(0), 8);
        Boundary.answers("33 may(0): one way alone", Shapes::oneWay, m -> m.may(0), 11);
        Boundary.answers("33 may(0): all EDGES, both ways", Shapes::box, m -> m.may(0), 24);
        Boundary.answers("33 may(0): of two FACES far apart", MeasuresBoundaryTest::twoAlone, m -> m.may(0), 12);
        Boundary.answers("33 may(0): 160 FACES were there", () -> Shapes.facesUsed(Shapes.box(), 160),
                m -> m.may(0), 24);
    }

    private static void promise33FlipAndJoin() {
        Boundary.answers("33 may(1): one EDGE, both ways", Shapes::twoTriangles, m -> m.may(1), 2);
        Boundary.answers("33 may(1): c is d", Shapes::twoSides, m -> m.may(1), 0);
        Boundary.answers("33 may(1): EDGES between c and d", Shapes::tetrahedron, m -> m.may(1), 0);
        Boundary.answers("33 may(1): FACES of 4", Shapes::box, m -> m.may(1), 0);
        Boundary.answers("33 may(1): 98 FACES in a row", () -> Shapes.fan(98), m -> m.may(1), 2 * 97);
        Boundary.answers("33 may(2): one EDGE, both ways", Shapes::twoTriangles, m -> m.may(2), 2);
        Boundary.answers("33 may(2): more POINTS in common", Shapes::twoSides, m -> m.may(2), 0);
        Boundary.answers("33 may(2): up to 12 POINTS", () -> Shapes.ringsOf(7, 7), m -> m.may(2), 2);
        Boundary.answers("33 may(2): 13 POINTS", () -> Shapes.ringsOf(7, 8), m -> m.may(2), 0);
        Boundary.answers("33 may(2): all EDGES, both ways", Shapes::box, m -> m.may(2), 24);
        Boundary.answers("33 may(2): 160 FACES were there", () -> Shapes.facesUsed(Shapes.box(), 160),
                m -> m.may(2), 24);
    }

    private static void promise34() {
        Boundary.answers("34 volumeWith: a RING loses a POINT", Shapes::box, m -> m.volumeWith(0, 1), 32);
        Boundary.answers("34 volumeWith: FACES would be GONE", Shapes::tetrahedron, m -> m.volumeWith(0, 1), 0);
        Boundary.answers("34 volumeWith: the first POINT of a RING would be GONE", () -> spread(3),
                m -> m.volumeWith(1, 0), 30);
        Boundary.answers("34 volumeWith: the last POINT of a RING would be GONE", () -> spread(3),
                m -> m.volumeWith(2, 3), 6);
        Boundary.answers("34 volumeWith: more than an int holds", () -> greatBox(false),
                m -> m.volumeWith(0, 1), 4000000000L);
        Boundary.answers("34 volumeWith: nothing changed", Shapes::box,
                m -> m.volumeWith(0, 1) + " " + m.digest(), "32 " + Shapes.box().digest());
        Boundary.answers("34 volumeWith: twice", Shapes::box,
                m -> m.volumeWith(0, 1) + " " + m.volumeWith(0, 1), "32 32");
        Boundary.answers("34 volumeWith: 160 FACES were there", () -> Shapes.facesUsed(Shapes.box(), 160),
                m -> m.volumeWith(0, 1), 32);
    }

    private static void promise34Refused() {
        Boundary.refusesNoPair("34 volumeWith", 0, Shapes::twoTriangles, (m, a, b) -> m.volumeWith(a, b));
        Boundary.refuses("34 volumeWith: a POINT and itself", Shapes::box, m -> m.volumeWith(0, 0), Check.ARGUMENT);
        Boundary.refuses("34 volumeWith: across a RING", Shapes::box, m -> m.volumeWith(0, 2), Check.ARGUMENT);
        Boundary.refuses("34 volumeWith: in no FACE", () -> Shapes.points(2), m -> m.volumeWith(0, 1), Check.ARGUMENT);
        Boundary.refuses("34 volumeWith: the only FACE", Shapes::triangle, m -> m.volumeWith(0, 1), Check.STATE);
        Boundary.refuses("34 volumeWith: both FACES", Shapes::twoTriangles, m -> m.volumeWith(0, 1), Check.STATE);
        Boundary.answers("34 volumeWith: one FACE would be left", Shapes::twoTriangles, m -> m.volumeWith(0, 2), 0);
        Boundary.refuses("34 volumeWith: a HALF in two FACES", Shapes::oneWay, m -> m.volumeWith(3, 1), Check.STATE);
        Boundary.answers("34 volumeWith: but not this way", Shapes::oneWay,
                m -> m.volumeWith(1, 3) + " " + m.collapse(1, 3) + " " + m.volume(), "0 1 0");
    }

    private static void promise35() {
        Boundary.refusesNoFace("35 holesWithout", Shapes::twoTriangles, (m, f) -> m.holesWithout(f));
        Boundary.answers("35 holesWithout: the only FACE", Shapes::triangle, m -> m.holesWithout(0), 0);
        Boundary.answers("35 holesWithout: a first HOLE", Shapes::box, m -> m.holesWithout(0), 1);
        Boundary.answers("35 holesWithout: one of two sides", Shapes::twoSides, m -> m.holesWithout(1), 1);
        Boundary.answers("35 holesWithout: a HOLE becomes greater", Shapes::twoTriangles, m -> m.holesWithout(0), 1);
        Boundary.answers("35 holesWithout: two HOLES become one", () -> Shapes.without(Shapes.box(), 0, 1),
                m -> m.holesWithout(3), 1);
        Boundary.answers("35 holesWithout: one HOLE becomes two", () -> Shapes.without(Shapes.fan(5), 0),
                m -> m.holesWithout(3), 2);
        Boundary.answers("35 holesWithout: one HOLE less", Shapes::bowTie, m -> m.holesWithout(0), 1);
        Boundary.answers("35 holesWithout: the 160th FACE", Shapes::crowded,
                m -> m.holesWithout(159) - m.dropFace(159) - m.holes(), -159);
        Boundary.refuses("35 holesWithout: no 161st", Shapes::crowded, m -> m.holesWithout(160), Check.INDEX);
        Boundary.answers("35 holesWithout: nothing changed", Shapes::box,
                m -> m.holesWithout(0) + " " + m.digest() + " " + m.holes(), "1 " + Shapes.box().digest() + " 0");
        Boundary.answers("35 holesWithout: twice", Shapes::box,
                m -> m.holesWithout(0) + " " + m.holesWithout(0), "1 1");
    }

    /** d of these numbers, by whole numbers without an end, wrapped around once at the last. */
    private static long digestOf(long... numbers) {
        BigInteger d = BigInteger.valueOf(58071);
        for (long v : numbers) {
            d = d.multiply(BigInteger.valueOf(31)).add(BigInteger.valueOf(v));
        }
        return d.longValue();
    }

    private static void promise36() {
        Boundary.answers("36 digest: nothing at all", QuarryMesh::new, QuarryMesh::digest, digestOf(0, 0, 0, 0, 0, 0, 0, 0));
        Boundary.answers("36 digest: a POINT", () -> onePoint(7, 8, 9),
                QuarryMesh::digest, digestOf(1, 0, 0, 0, 0, 0, 0, 7, 8, 9, 0, 0, 0, 0, 0, 0));
        Boundary.answers("36 digest: less than 0", () -> onePoint(-500, -1, -500),
                QuarryMesh::digest, digestOf(1, 0, 0, 0, 0, 0, 0, -500, -1, -500, 0, 0, 0, 0, 0, 0));
        Boundary.answers("36 digest: a GONE POINT", () -> {
            QuarryMesh mesh = onePoint(7, 8, 9);
            mesh.point(1, 2, 3);
            mesh.dropPoint(0);
            return mesh;
        }, QuarryMesh::digest, digestOf(1, 0, 0, 0, 0, 0, 1, 1, 2, 3, 0, 0, 0, 0, 0, 0));
        Boundary.answers("36 digest: all POINTS are GONE", () -> {
            QuarryMesh mesh = onePoint(7, 8, 9);
            mesh.dropPoint(0);
            return mesh;
        }, QuarryMesh::digest, digestOf(0, 0, 0, 0, 0, 0, 0, 0));
        Boundary.answers("36 digest: a GONE FACE", () -> Shapes.without(twoTrianglesAlone(), 0),
                QuarryMesh::digest, digestOf(3, 3, 1, 1, 1, 0,
                0, 0, 0, 0, 2, 1, 1, 1, 1, 4, 0, 0, 2, 1, 1, 1, 2, 0, 4, 0, 2, 1, 1, 1, 1, 3, 0, 2, 1, 0, 0, -16, 0, 0));
    }

    /** FACE 0 (0 1 2), and FACE 1 (0 2 1). */
    private static QuarryMesh twoTrianglesAlone() {
        QuarryMesh mesh = Shapes.triangle();
        mesh.face(0, 2, 1, -1);
        return mesh;
    }

    private static QuarryMesh onePoint(int x, int y, int z) {
        QuarryMesh mesh = new QuarryMesh();
        mesh.point(x, y, z);
        return mesh;
    }

    /** d wraps around behind the 12th number or so; volume() alone is more than an int holds. */
    private static void promise36Wrap() {
        Boundary.answers("36 digest: wraps around", () -> greatBox(false), m -> m.digest() == digestOfGreatBox(), true);
        Boundary.answers("36 digest: twice", () -> greatBox(true), m -> m.digest() == m.digest(), true);
    }

    private static long digestOfGreatBox() {
        int[][] rings = {{0, 3, 2, 1}, {4, 5, 6, 7}, {0, 1, 5, 4}, {1, 2, 6, 5}, {2, 3, 7, 6}, {3, 0, 4, 7}};
        int[][] normals = {{0, 0, -1}, {0, 0, 1}, {0, -1, 0}, {1, 0, 0}, {0, 1, 0}, {-1, 0, 0}};
        long[] numbers = new long[6 + 8 * 8 + 6 * 9 + 2];
        int n = 0;
        for (long v : new long[] {8, 12, 6, 0, 1, 6000000000L}) {
            numbers[n++] = v;
        }
        for (int p = 0; p < 8; p++) {
            int x = p % 4 == 1 || p % 4 == 2 ? 500 : -500;
            int y = p % 4 >= 2 ? 500 : -500;
            for (long v : new long[] {p, x, y, p >= 4 ? 500 : -500, 3, 3, 0, 1}) {
                numbers[n++] = v;
            }
        }
        for (int f = 0; f < 6; f++) {
            numbers[n++] = f;
            numbers[n++] = 4;
            for (int p : rings[f]) {
                numbers[n++] = p;
            }
            for (int v : normals[f]) {
                numbers[n++] = v * 2000000L;
            }
        }
        numbers[n++] = 0;
        numbers[n] = 24;
        return digestOf(numbers);
    }
}
