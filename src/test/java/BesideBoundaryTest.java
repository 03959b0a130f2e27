/** The boundary cases of promises 18 to 28, each as a test of its own. */
public final class BesideBoundaryTest {
    private static final int[] FAR = {Integer.MIN_VALUE, Integer.MAX_VALUE};

    public static void main(String[] args) {
        promise18();
        promise19();
        promise20();
        promise21();
        promise22();
        promise23();
        promise24();
        promise25();
        promise26();
        promise27();
        promise27Next();
        promise28Neighbours();
        promise28Faces();
        promise28OpenHalves();
        promise28Fans();
        promise28Refused();
        Check.end();
    }

    private static QuarryMesh hundredPoints() {
        return Shapes.pointsUsed(new QuarryMesh(), 100);
    }

    private static QuarryMesh twoBoxes() {
        QuarryMesh mesh = Shapes.box();
        mesh.box(5, 5, 5, 1);
        return mesh;
    }

    private static QuarryMesh goneByCollapse() {
        QuarryMesh mesh = Shapes.bowTie();
        mesh.collapse(0, 1);
        return mesh;
    }

    private static void promise18() {
        Boundary.answers("18 points: none", QuarryMesh::new, QuarryMesh::points, 0);
        Boundary.answers("18 points: one", () -> Shapes.points(1), QuarryMesh::points, 1);
        Boundary.answers("18 points: 100", BesideBoundaryTest::hundredPoints, QuarryMesh::points, 100);
        Boundary.answers("18 points: all are GONE", () -> {
            QuarryMesh mesh = Shapes.points(1);
            mesh.dropPoint(0);
            return mesh;
        }, QuarryMesh::points, 0);
        Boundary.answers("18 points: one is GONE by collapse()", BesideBoundaryTest::goneByCollapse,
                QuarryMesh::points, 4);
        Boundary.answers("18 points: one of 100 is GONE", () -> {
            QuarryMesh mesh = hundredPoints();
            mesh.dropPoint(99);
            return mesh;
        }, QuarryMesh::points, 99);
    }

    private static void promise19() {
        Boundary.answers("19 edges: none", QuarryMesh::new, QuarryMesh::edges, 0);
        Boundary.answers("19 edges: POINTS without FACES", () -> Shapes.points(5), QuarryMesh::edges, 0);
        Boundary.answers("19 edges: a FACE alone", Shapes::triangle, QuarryMesh::edges, 3);
        Boundary.answers("19 edges: a FACE of 12 alone", () -> Shapes.polygon(12), QuarryMesh::edges, 12);
        Boundary.answers("19 edges: both HALVES in FACES are one", Shapes::twoSides, QuarryMesh::edges, 3);
        Boundary.answers("19 edges: one HALF in a FACE is one", Shapes::twoTriangles, QuarryMesh::edges, 5);
        Boundary.answers("19 edges: the other HALF in a FACE is one", () -> Shapes.without(Shapes.twoSides(), 0),
                QuarryMesh::edges, 3);
        Boundary.answers("19 edges: all FACES are GONE", () -> Shapes.without(Shapes.twoSides(), 0, 1), QuarryMesh::edges, 0);
        Boundary.answers("19 edges: of 160 FACES, each one HALF", Shapes::crowded, QuarryMesh::edges, 480);
    }

    private static void promise20() {
        Boundary.answers("20 faces: none", QuarryMesh::new, QuarryMesh::faces, 0);
        Boundary.answers("20 faces: one", Shapes::triangle, QuarryMesh::faces, 1);
        Boundary.answers("20 faces: 160", Shapes::crowded, QuarryMesh::faces, 160);
        Boundary.answers("20 faces: all are GONE", () -> Shapes.without(Shapes.triangle(), 0), QuarryMesh::faces, 0);
        Boundary.answers("20 faces: all of 160 are GONE", () -> Shapes.facesUsed(new QuarryMesh(), 160),
                QuarryMesh::faces, 0);
        Boundary.answers("20 faces: one is GONE by collapse()", BesideBoundaryTest::goneByCollapse,
                QuarryMesh::faces, 1);
    }

    private static void promise21() {
        Boundary.answers("21 holes: none", QuarryMesh::new, QuarryMesh::holes, 0);
        Boundary.answers("21 holes: POINTS without FACES", () -> Shapes.points(5), QuarryMesh::holes, 0);
        Boundary.answers("21 holes: a closed box", Shapes::box, QuarryMesh::holes, 0);
        Boundary.answers("21 holes: two sides of a FACE", Shapes::twoSides, QuarryMesh::holes, 0);
        Boundary.answers("21 holes: around a FACE alone", Shapes::triangle, QuarryMesh::holes, 1);
        Boundary.answers("21 holes: around a FACE of 12", () -> Shapes.polygon(12), QuarryMesh::holes, 1);
        Boundary.answers("21 holes: all FACES are GONE", () -> Shapes.without(Shapes.box(), 0, 1, 2, 3, 4, 5),
                QuarryMesh::holes, 0);
        Boundary.answers("21 holes: two at one POINT", Shapes::bowTie, QuarryMesh::holes, 2);
        Boundary.answers("21 holes: one with a POINT twice", Shapes::pinched, QuarryMesh::holes, 1);
        Boundary.answers("21 holes: one of 182 HALVES", () -> Shapes.strip(90), QuarryMesh::holes, 1);
        Boundary.answers("21 holes: two, of FACES away from each other", () -> Shapes.without(Shapes.box(), 0, 1),
                QuarryMesh::holes, 2);
        Boundary.answers("21 holes: one, of FACES beside each other", () -> Shapes.without(Shapes.box(), 0, 2),
                QuarryMesh::holes, 1);
        Boundary.answers("21 holes: of two boxes", () -> Shapes.without(twoBoxes(), 0, 6), QuarryMesh::holes, 2);
        Boundary.answers("21 holes: a second time", () -> Shapes.without(twoBoxes(), 0, 6),
                m -> m.holes() + " " + m.holes(), "2 2");
        Boundary.answers("21 holes: 49 FACES in a row, each at a POINT of the next", () -> Shapes.chain(49),
                QuarryMesh::holes, 49);
        Boundary.answers("21 holes: 49 at one POINT", BesideBoundaryTest::star, QuarryMesh::holes, 49);
    }

    /** 49 FACES of three that have the POINT 0 in common, and no EDGE. */
    private static QuarryMesh star() {
        QuarryMesh mesh = Shapes.points(99);
        for (int i = 1; i < 99; i += 2) {
            mesh.face(0, i, i + 1, -1);
        }
        return mesh;
    }

    private static void promise22() {
        Boundary.answers("22 shells: none", QuarryMesh::new, QuarryMesh::shells, 0);
        Boundary.answers("22 shells: POINTS without FACES", () -> Shapes.points(5), QuarryMesh::shells, 0);
        Boundary.answers("22 shells: one FACE alone", Shapes::triangle, QuarryMesh::shells, 1);
        Boundary.answers("22 shells: all FACES are GONE", () -> Shapes.without(Shapes.triangle(), 0), QuarryMesh::shells, 0);
        Boundary.answers("22 shells: over an EDGE", Shapes::twoTriangles, QuarryMesh::shells, 1);
        Boundary.answers("22 shells: over an EDGE, two sides", Shapes::twoSides, QuarryMesh::shells, 1);
        Boundary.answers("22 shells: not over a POINT", Shapes::bowTie, QuarryMesh::shells, 2);
        Boundary.answers("22 shells: two boxes", BesideBoundaryTest::twoBoxes, QuarryMesh::shells, 2);
        Boundary.answers("22 shells: two boxes, a second time", BesideBoundaryTest::twoBoxes,
                m -> m.shells() + " " + m.shells(), "2 2");
        Boundary.answers("22 shells: behind steps()", BesideBoundaryTest::twoBoxes,
                m -> m.steps(8, 14) + " " + m.shells(), "3 2");
        Boundary.answers("22 shells: one with a POINT in two FANS", Shapes::pinched, QuarryMesh::shells, 1);
        Boundary.answers("22 shells: over the last EDGE of both RINGS", () -> {
            QuarryMesh mesh = Shapes.points(4);
            mesh.face(0, 1, 2, -1);
            mesh.face(0, 2, 3, -1);
            return mesh;
        }, QuarryMesh::shells, 1);
        Boundary.answers("22 shells: the FACE between two is GONE", () -> Shapes.without(Shapes.fan(3), 1),
                QuarryMesh::shells, 2);
        Boundary.answers("22 shells: 98 in a row", () -> Shapes.fan(98), QuarryMesh::shells, 1);
        Boundary.answers("22 shells: 49", () -> Shapes.chain(49), QuarryMesh::shells, 49);
        Boundary.answers("22 shells: 160, no EDGE with both HALVES", Shapes::crowded, QuarryMesh::shells, 160);
    }

    private static void promise23() {
        Boundary.refusesNoPoint("23 at", Shapes::triangle, (m, p) -> m.at(p, 0));
        Boundary.refusesNoPoint("23 at, no axis either", Shapes::triangle, (m, p) -> m.at(p, 3));
        Boundary.answers("23 at: axis 0", () -> Shapes.points(3), m -> m.at(2, 0), 2);
        Boundary.answers("23 at: axis 2", () -> Shapes.points(9), m -> m.at(8, 2), 1);
        Boundary.answers("23 at: the 100th POINT", BesideBoundaryTest::hundredPoints, m -> m.at(99, 2), 0);
        Boundary.refuses("23 at: no 101st", BesideBoundaryTest::hundredPoints, m -> m.at(100, 2), Check.INDEX);
        Boundary.refuses("23 at: axis -1", Shapes::triangle, m -> m.at(0, -1), Check.ARGUMENT);
        Boundary.refuses("23 at: axis 3", Shapes::triangle, m -> m.at(0, 3), Check.ARGUMENT);
        for (int far : FAR) {
            Boundary.refuses("23 at: axis " + far, Shapes::triangle, m -> m.at(0, far), Check.ARGUMENT);
        }
        Boundary.refuses("23 at: GONE by collapse()", BesideBoundaryTest::goneByCollapse, m -> m.at(1, 0), Check.INDEX);
    }

    private static void promise24() {
        Boundary.refusesNoFace("24 size", Shapes::twoTriangles, (m, f) -> m.size(f));
        Boundary.answers("24 size: 3", Shapes::triangle, m -> m.size(0), 3);
        Boundary.answers("24 size: 12", () -> Shapes.polygon(12), m -> m.size(0), 12);
        Boundary.answers("24 size: the 160th FACE", Shapes::crowded, m -> m.size(159), 3);
        Boundary.refuses("24 size: no 161st", Shapes::crowded, m -> m.size(160), Check.INDEX);
        Boundary.refuses("24 size: GONE by collapse()", BesideBoundaryTest::goneByCollapse,
                m -> m.size(0), Check.INDEX);
    }

    private static void promise25() {
        Boundary.refusesNoFace("25 corner", Shapes::twoTriangles, (m, f) -> m.corner(f, 0));
        Boundary.answers("25 corner: the first of 3", Shapes::triangle, m -> m.corner(0, 0), 0);
        Boundary.answers("25 corner: the last of 3", Shapes::triangle, m -> m.corner(0, 2), 2);
        Boundary.answers("25 corner: the last of 12", () -> Shapes.polygon(12), m -> m.corner(0, 11), 11);
        Boundary.answers("25 corner: of the 160th FACE", Shapes::crowded, m -> m.corner(159, 2), 69);
        Boundary.refuses("25 corner: no 161st", Shapes::crowded, m -> m.corner(160, 2), Check.INDEX);
        Boundary.refuses("25 corner: ahead of the first", Shapes::triangle, m -> m.corner(0, -1), Check.INDEX);
        Boundary.refuses("25 corner: behind the last of 3", Shapes::triangle, m -> m.corner(0, 3), Check.INDEX);
        Boundary.refuses("25 corner: behind the last of 12", () -> Shapes.polygon(12),
                m -> m.corner(0, 12), Check.INDEX);
        Boundary.refuses("25 corner: there no more", () -> {
            QuarryMesh mesh = Shapes.polygon(4);
            mesh.collapse(0, 3);
            return mesh;
        }, m -> m.corner(0, 3), Check.INDEX);
        for (int far : FAR) {
            Boundary.refuses("25 corner: place " + far, Shapes::triangle, m -> m.corner(0, far), Check.INDEX);
        }
    }

    private static void promise26() {
        Boundary.refusesNoPair("26 faceOf", 0, Shapes::triangle, (m, a, b) -> m.faceOf(a, b));
        Boundary.answers("26 faceOf: the first FACE", Shapes::triangle, m -> m.faceOf(0, 1), 0);
        Boundary.answers("26 faceOf: the 160th FACE", Shapes::crowded, m -> m.faceOf(62, 64), 159);
        Boundary.answers("26 faceOf: from the last one to the first", Shapes::triangle, m -> m.faceOf(2, 0), 0);
        Boundary.answers("26 faceOf: from the last of 12 to the first", () -> Shapes.polygon(12),
                m -> m.faceOf(11, 0), 0);
        Boundary.answers("26 faceOf: an OPEN HALF", Shapes::triangle, m -> m.faceOf(1, 0), -1);
        Boundary.answers("26 faceOf: across a RING", Shapes::box, m -> m.faceOf(0, 2), -1);
        Boundary.answers("26 faceOf: a POINT and itself", Shapes::triangle, m -> m.faceOf(1, 1), -1);
        Boundary.answers("26 faceOf: in no FACE", () -> Shapes.points(2), m -> m.faceOf(0, 1), -1);
        Boundary.answers("26 faceOf: its FACE is GONE", () -> Shapes.without(Shapes.triangle(), 0), m -> m.faceOf(0, 1), -1);
        Boundary.answers("26 faceOf: the 99th and the 100th POINT", () -> {
            QuarryMesh mesh = hundredPoints();
            mesh.face(98, 99, 0, -1);
            return mesh;
        }, m -> m.faceOf(98, 99) + " " + m.faceOf(99, 0) + " " + m.faceOf(99, 98), "0 0 -1");
    }

    private static void promise27() {
        Boundary.refusesNoPair("27 hole", 0, Shapes::triangle, (m, a, b) -> m.hole(a, b));
        Boundary.answers("27 hole: in a FACE, not OPEN", Shapes::triangle, m -> m.hole(0, 1), 0);
        Boundary.answers("27 hole: both HALVES in FACES", Shapes::twoTriangles, m -> m.hole(1, 0), 0);
        Boundary.answers("27 hole: no EDGE", Shapes::twoTriangles, m -> m.hole(2, 3), 0);
        Boundary.answers("27 hole: a POINT and itself", Shapes::triangle, m -> m.hole(0, 0), 0);
        Boundary.answers("27 hole: in no FACE", () -> Shapes.points(2), m -> m.hole(0, 1), 0);
        Boundary.answers("27 hole: its FACE is GONE", () -> Shapes.without(Shapes.triangle(), 0), m -> m.hole(1, 0), 0);
        Boundary.answers("27 hole: the least", Shapes::triangle, m -> m.hole(1, 0), 3);
        Boundary.answers("27 hole: over the end of the RING", Shapes::triangle, m -> m.hole(0, 2), 3);
        Boundary.answers("27 hole: 12", () -> Shapes.polygon(12), m -> m.hole(1, 0), 12);
        Boundary.answers("27 hole: more than a RING may have", () -> Shapes.fan(11), m -> m.hole(1, 0), 13);
        Boundary.answers("27 hole: 100", () -> Shapes.fan(98), m -> m.hole(1, 0), 100);
        Boundary.answers("27 hole: more than there are FACES", () -> Shapes.strip(90), m -> m.hole(1, 0), 182);
        Boundary.answers("27 hole: a second time", Shapes::triangle, m -> m.hole(1, 0) + " " + m.hole(1, 0), "3 3");
    }

    private static void promise27Next() {
        Boundary.answers("27 hole: the next one is OPEN at once", Shapes::twoTriangles, m -> m.hole(1, 3), 4);
        Boundary.answers("27 hole: on over one FACE", Shapes::twoTriangles, m -> m.hole(3, 0), 4);
        Boundary.answers("27 hole: on over 97 FACES", () -> Shapes.fan(98), m -> m.hole(2, 1), 100);
        Boundary.answers("27 hole: around 99 FACES", () -> Shapes.closedFan(99), m -> m.hole(2, 1), 99);
        Boundary.answers("27 hole: one of two at a POINT", Shapes::bowTie, m -> m.hole(0, 2), 3);
        Boundary.answers("27 hole: on at its own FAN", Shapes::pinched, m -> m.hole(1, 0), 6);
        Boundary.answers("27 hole: one of 49 at a POINT", BesideBoundaryTest::star, m -> m.hole(0, 98), 3);
    }

    private static void promise28Neighbours() {
        Boundary.answers("28 around: no NEIGHBOURS", () -> Shapes.points(1), m -> m.around(0, 0), 0);
        Boundary.answers("28 around: NEIGHBOURS of a FACE alone", Shapes::triangle, m -> m.around(0, 0), 2);
        Boundary.answers("28 around: NEIGHBOURS over both HALVES once", Shapes::twoSides, m -> m.around(0, 0), 2);
        Boundary.answers("28 around: a NEIGHBOUR against the HALF", Shapes::twoTriangles, m -> m.around(2, 0), 2);
        Boundary.answers("28 around: NEIGHBOURS in one RING are not all", Shapes::box, m -> m.around(0, 0), 3);
        Boundary.answers("28 around: 99 NEIGHBOURS, with a gap", () -> Shapes.fan(98), m -> m.around(0, 0), 99);
        Boundary.answers("28 around: 99 NEIGHBOURS, without one", () -> Shapes.closedFan(99), m -> m.around(0, 0), 99);
        Boundary.answers("28 around: NEIGHBOURS no more", () -> Shapes.without(Shapes.triangle(), 0), m -> m.around(0, 0), 0);
    }

    private static void promise28Faces() {
        Boundary.answers("28 around: in no FACE", () -> Shapes.points(1), m -> m.around(0, 1), 0);
        Boundary.answers("28 around: in one FACE, the first one", Shapes::triangle, m -> m.around(0, 1), 1);
        Boundary.answers("28 around: in one FACE, the last one", Shapes::triangle, m -> m.around(2, 1), 1);
        Boundary.answers("28 around: in both sides", Shapes::twoSides, m -> m.around(1, 1), 2);
        Boundary.answers("28 around: in 99 FACES", () -> Shapes.closedFan(99), m -> m.around(0, 1), 99);
        Boundary.answers("28 around: its FACE is GONE", () -> Shapes.without(Shapes.triangle(), 0), m -> m.around(0, 1), 0);
    }

    private static void promise28OpenHalves() {
        Boundary.answers("28 around: no OPEN HALVES, in no FACE", () -> Shapes.points(1), m -> m.around(0, 2), 0);
        Boundary.answers("28 around: no OPEN HALVES, closed", Shapes::box, m -> m.around(0, 2), 0);
        Boundary.answers("28 around: one OPEN HALF from it", Shapes::triangle, m -> m.around(0, 2), 1);
        Boundary.answers("28 around: OPEN HALVES to it do not count", Shapes::bowTie, m -> m.around(0, 2), 2);
        Boundary.answers("28 around: a HALF in a FACE is not OPEN", () -> Shapes.fan(98), m -> m.around(0, 2), 1);
        Boundary.answers("28 around: 49 OPEN HALVES", BesideBoundaryTest::star, m -> m.around(0, 2), 49);
    }

    private static void promise28Fans() {
        Boundary.answers("28 around: no FANS", () -> Shapes.points(1), m -> m.around(0, 3), 0);
        Boundary.answers("28 around: a FAN of one FACE", Shapes::triangle, m -> m.around(0, 3), 1);
        Boundary.answers("28 around: a FAN of two sides", Shapes::twoSides, m -> m.around(0, 3), 1);
        Boundary.answers("28 around: a closed FAN", Shapes::box, m -> m.around(0, 3), 1);
        Boundary.answers("28 around: a closed FAN of 99", () -> Shapes.closedFan(99), m -> m.around(0, 3), 1);
        Boundary.answers("28 around: a FAN of 98 with a gap", () -> Shapes.fan(98), m -> m.around(0, 3), 1);
        Boundary.answers("28 around: two FANS", Shapes::bowTie, m -> m.around(0, 3), 2);
        Boundary.answers("28 around: two FANS that are one SHELL", Shapes::pinched, m -> m.around(0, 3), 2);
        Boundary.answers("28 around: not over an EDGE away from that POINT", () -> Shapes.without(Shapes.closedFan(4), 0, 2),
                m -> m.around(0, 3), 2);
        Boundary.answers("28 around: 49 FANS", BesideBoundaryTest::star, m -> m.around(0, 3), 49);
        Boundary.answers("28 around: a FAN that goes on both ways from the POINT 1", BesideBoundaryTest::wideFan,
                m -> m.around(0, 3), 1);
        Boundary.answers("28 around: a FAN of all FACES at it but one", () -> Shapes.without(Shapes.closedFan(6), 3),
                m -> m.around(0, 3), 1);
        Boundary.answers("28 around: FANS a second time", Shapes::bowTie,
                m -> m.around(0, 3) + " " + m.around(0, 3), "2 2");
    }

    /** At the POINT 0, seven FACES in a row over 4 3 2 1 5 6 7 8. */
    private static QuarryMesh wideFan() {
        QuarryMesh mesh = Shapes.points(9);
        int[] row = {4, 3, 2, 1, 5, 6, 7, 8};
        for (int i = 0; i < 7; i++) {
            mesh.face(0, row[i], row[i + 1], -1);
        }
        return mesh;
    }

    private static void promise28Refused() {
        Boundary.refusesNoPoint("28 around", Shapes::triangle, (m, p) -> m.around(p, 0));
        Boundary.refusesNoPoint("28 around, what does not fit either", Shapes::triangle, (m, p) -> m.around(p, 4));
        Boundary.refuses("28 around: what -1", Shapes::triangle, m -> m.around(0, -1), Check.ARGUMENT);
        Boundary.refuses("28 around: what 4", Shapes::triangle, m -> m.around(0, 4), Check.ARGUMENT);
        for (int far : FAR) {
            Boundary.refuses("28 around: what " + far, Shapes::triangle, m -> m.around(0, far), Check.ARGUMENT);
        }
        Boundary.answers("28 around: the 100th POINT", BesideBoundaryTest::hundredPoints, m -> m.around(99, 3), 0);
        Boundary.refuses("28 around: no 101st", BesideBoundaryTest::hundredPoints, m -> m.around(100, 3), Check.INDEX);
    }
}
