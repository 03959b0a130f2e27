/** The boundary cases of promises 13 to 17, each as a test of its own. */
public final class WholesBoundaryTest {
    public static void main(String[] args) {
        promise13Reach();
        promise13OnePointOutOfReach();
        promise13Rings();
        promise13Limits();
        promise14Rings();
        promise14Next();
        promise14Refused();
        promise15Middles();
        promise15Rings();
        promise15Limits();
        promise16Stays();
        promise16Moves();
        promise17();
        Check.end();
    }

    /** Three POINTS at one place, and a FACE. */
    private static QuarryMesh flatAt(int v) {
        QuarryMesh mesh = new QuarryMesh();
        for (int i = 0; i < 3; i++) {
            mesh.point(v, v, v);
        }
        mesh.face(0, 1, 2, -1);
        return mesh;
    }

    private static Object drawAlong(QuarryMesh mesh, int axis, int by) {
        return mesh.draw(0, axis == 0 ? by : 0, axis == 1 ? by : 0, axis == 2 ? by : 0);
    }

    private static void promise13Reach() {
        int[][] fitting = {{0, 500}, {0, -500}, {-500, 1000}, {500, -1000}, {500, 0}, {-500, 0}, {499, 1}, {-499, -1}};
        int[][] beyond = {{0, 501}, {0, -501}, {-500, 1001}, {500, -1001}, {500, 1}, {-500, -1}, {-500, -1000},
            {0, Integer.MAX_VALUE}, {0, Integer.MIN_VALUE}, {500, Integer.MAX_VALUE}, {-500, Integer.MIN_VALUE},
            {-500, Integer.MAX_VALUE}, {500, Integer.MIN_VALUE}};
        for (int axis = 0; axis < 3; axis++) {
            int along = axis;
            for (int[] v : fitting) {
                Boundary.answers("13 draw: along " + axis + " from " + v[0] + " by " + v[1], () -> flatAt(v[0]),
                        m -> drawAlong(m, along, v[1]) + ": " + m.at(3, along), "3: " + (v[0] + v[1]));
            }
            for (int[] v : beyond) {
                Boundary.refuses("13 draw: along " + axis + " from " + v[0] + " by " + v[1], () -> flatAt(v[0]),
                        m -> drawAlong(m, along, v[1]), Check.ARGUMENT);
            }
        }
    }

    /** Of three POINTS at 0, each alone is 1 off along one axis, so that it alone would be out of reach. */
    private static void promise13OnePointOutOfReach() {
        for (int point = 0; point < 3; point++) {
            for (int axis = 0; axis < 3; axis++) {
                for (int sign = -1; sign <= 1; sign += 2) {
                    int along = axis;
                    int by = 500 * sign;
                    int[] off = {point, axis, sign};
                    String what = "13 draw: POINT " + point + " alone, along " + axis + ", by ";
                    Boundary.refuses(what + by, () -> oneOff(off), m -> drawAlong(m, along, by), Check.ARGUMENT);
                    Boundary.answers(what + (by - sign), () -> oneOff(off), m -> drawAlong(m, along, by - off[2]), 3);
                }
            }
        }
    }

    private static QuarryMesh oneOff(int[] off) {
        QuarryMesh mesh = flatAt(0);
        mesh.move(off[0], off[1] == 0 ? off[2] : 0, off[1] == 1 ? off[2] : 0, off[1] == 2 ? off[2] : 0);
        return mesh;
    }

    private static void promise13Rings() {
        Boundary.answers("13 draw: 3 POINTS, the last side", Shapes::triangle,
                m -> m.draw(0, 0, 0, 1) + ": " + Check.ring(m, 3), "3: 2 0 3 5");
        Boundary.answers("13 draw: 12 POINTS, the last side", () -> Shapes.polygon(12),
                m -> m.draw(0, 0, 0, 1) + ": " + Check.ring(m, 12), "12: 11 0 12 23");
        Boundary.answers("13 draw: 12 POINTS, its own RING", () -> Shapes.polygon(12),
                m -> m.draw(0, 0, 0, 1) + ": " + Check.ring(m, 0), "12: 12 13 14 15 16 17 18 19 20 21 22 23");
        Boundary.answers("13 draw: each axis by itself", () -> oneOff(new int[] {2, 1, 1}),
                m -> m.draw(0, 100, -200, 300) + ": " + Check.place(m, 5), "3: 100 -199 300");
        Boundary.answers("13 draw: by 0", Shapes::triangle,
                m -> m.draw(0, 0, 0, 0) + ": " + Check.place(m, 4), "3: 4 0 0");
        Boundary.answers("13 draw: twice", Shapes::triangle,
                m -> m.draw(0, 0, 0, 1) + " " + m.draw(0, 0, 0, 1) + " " + m.faces() + " " + m.holes(), "3 6 7 1");
        Boundary.answers("13 draw: nothing is OPEN behind it", Shapes::box,
                m -> m.draw(1, 0, 0, 1) + " " + m.holes(), "8 0");
    }

    private static void promise13Limits() {
        Boundary.refusesNoFace("13 draw", Shapes::twoTriangles, (m, f) -> m.draw(f, 0, 0, 1));
        Boundary.refusesNoFace("13 draw, out of reach too", Shapes::twoTriangles, (m, f) -> m.draw(f, 0, 0, 501));
        Boundary.answers("13 draw: up to the 100th POINT", () -> Shapes.pointsUsed(Shapes.triangle(), 97),
                m -> m.draw(0, 0, 0, 1), 97);
        Boundary.answers("13 draw: 12 up to the 100th POINT", () -> Shapes.pointsUsed(Shapes.polygon(12), 88),
                m -> m.draw(0, 0, 0, 1), 88);
        Boundary.refuses("13 draw: one of 12 would be the 101st POINT", () -> Shapes.pointsUsed(Shapes.polygon(12), 89),
                m -> m.draw(0, 0, 0, 1), Check.STATE);
        for (int ever = 98; ever <= 100; ever++) {
            int used = ever;
            Boundary.refuses("13 draw: " + ever + " POINTS were there", () -> Shapes.pointsUsed(Shapes.triangle(), used),
                    m -> m.draw(0, 0, 0, 1), Check.STATE);
        }
        Boundary.answers("13 draw: up to the 160th FACE", () -> Shapes.facesUsed(Shapes.triangle(), 157),
                m -> m.draw(0, 0, 0, 1) + ": " + Check.ring(m, 159), "6: 2 0 6 8");
        for (int ever = 158; ever <= 160; ever++) {
            int used = ever;
            Boundary.refuses("13 draw: " + ever + " FACES were there", () -> Shapes.facesUsed(Shapes.triangle(), used),
                    m -> m.draw(0, 0, 0, 1), Check.STATE);
        }
        Boundary.refuses("13 draw: the argument ahead of the POINTS", () -> Shapes.pointsUsed(Shapes.triangle(), 100),
                m -> m.draw(0, 0, 501, 0), Check.ARGUMENT);
        Boundary.refuses("13 draw: the argument ahead of the FACES", () -> Shapes.facesUsed(Shapes.triangle(), 160),
                m -> m.draw(0, -501, 0, 0), Check.ARGUMENT);
    }

    private static void promise14Rings() {
        String[] rings = {"0 2 1", "0 3 2 1", "0 4 3 2 1", "0 5 4 3 2 1", "0 6 5 4 3 2 1", "0 7 6 5 4 3 2 1",
            "0 8 7 6 5 4 3 2 1", "0 9 8 7 6 5 4 3 2 1", "0 10 9 8 7 6 5 4 3 2 1", "0 11 10 9 8 7 6 5 4 3 2 1"};
        for (int n = 3; n <= 12; n++) {
            int length = n;
            Boundary.answers("14 fill: a HOLE of " + n, () -> Shapes.polygon(length),
                    m -> m.fill(0, length - 1) + ": " + Check.ring(m, 1), "1: " + rings[n - 3]);
        }
        Boundary.answers("14 fill: from 1 on", Shapes::triangle,
                m -> m.fill(1, 0) + ": " + Check.ring(m, 1), "1: 1 0 2");
        Boundary.answers("14 fill: from 2 on", Shapes::triangle,
                m -> m.fill(2, 1) + ": " + Check.ring(m, 1), "1: 2 1 0");
        Boundary.answers("14 fill: a HOLE in a box", () -> Shapes.without(Shapes.box(), 4),
                m -> m.fill(7, 6) + ": " + Check.ring(m, 6), "6: 7 6 2 3");
        Boundary.answers("14 fill: the last HOLE", () -> Shapes.without(Shapes.box(), 4),
                m -> m.fill(2, 3) + " " + m.holes(), "6 0");
    }

    /** At a POINT with several FACES in a row, the next OPEN HALF lies behind all of them. */
    private static void promise14Next() {
        Boundary.answers("14 fill: the next one is OPEN at once", Shapes::twoTriangles,
                m -> m.fill(1, 3) + ": " + Check.ring(m, 2), "2: 1 3 0 2");
        Boundary.answers("14 fill: on over one FACE", Shapes::twoTriangles,
                m -> m.fill(3, 0) + ": " + Check.ring(m, 2), "2: 3 0 2 1");
        Boundary.answers("14 fill: on over two FACES", () -> Shapes.fan(3),
                m -> m.fill(1, 0) + ": " + Check.ring(m, 3), "3: 1 0 4 3 2");
        Boundary.answers("14 fill: on over ten FACES", () -> Shapes.fan(10),
                m -> m.fill(1, 0) + ": " + Check.ring(m, 10), "10: 1 0 11 10 9 8 7 6 5 4 3 2");
        Boundary.answers("14 fill: one of two HOLES at a POINT", Shapes::bowTie,
                m -> m.fill(0, 2) + ": " + Check.ring(m, 2) + ", " + m.holes(), "2: 0 2 1, 1");
        Boundary.answers("14 fill: the other one of them", Shapes::bowTie,
                m -> m.fill(3, 0) + ": " + Check.ring(m, 2) + ", " + m.holes(), "2: 3 0 4, 1");
        Boundary.answers("14 fill: one of two HOLES of a box", () -> Shapes.without(Shapes.box(), 0, 1),
                m -> m.fill(4, 5) + ": " + Check.ring(m, 6) + ", " + m.holes(), "6: 4 5 6 7, 1");
    }

    private static void promise14Refused() {
        Boundary.refusesNoPair("14 fill", 0, Shapes::twoTriangles, (m, a, b) -> m.fill(a, b));
        Boundary.refuses("14 fill: (a, b) is in a FACE, (b, a) is not", Shapes::twoTriangles,
                m -> m.fill(1, 2), Check.ARGUMENT);
        Boundary.refuses("14 fill: both are in FACES", Shapes::twoTriangles, m -> m.fill(0, 1), Check.ARGUMENT);
        Boundary.refuses("14 fill: neither is in a FACE", Shapes::twoTriangles, m -> m.fill(2, 3), Check.ARGUMENT);
        Boundary.refuses("14 fill: a POINT and itself", Shapes::twoTriangles, m -> m.fill(0, 0), Check.ARGUMENT);
        Boundary.refuses("14 fill: 13 POINTS", () -> Shapes.fan(11), m -> m.fill(1, 0), Check.STATE);
        Boundary.refuses("14 fill: 100 POINTS", () -> Shapes.fan(98), m -> m.fill(1, 0), Check.STATE);
        Boundary.refuses("14 fill: 182 POINTS", () -> Shapes.strip(90), m -> m.fill(1, 0), Check.STATE);
        int[][] pinched = {{1, 0}, {0, 2}, {2, 4}, {4, 0}, {0, 3}, {3, 1}};
        for (int[] h : pinched) {
            Boundary.refuses("14 fill: a POINT twice, from " + h[0] + " to " + h[1], Shapes::pinched,
                    m -> m.fill(h[0], h[1]), Check.STATE);
        }
        Boundary.answers("14 fill: the 160th FACE", () -> Shapes.facesUsed(Shapes.triangle(), 159),
                m -> m.fill(0, 2), 159);
        Boundary.refuses("14 fill: the 161st FACE", () -> Shapes.facesUsed(Shapes.triangle(), 160),
                m -> m.fill(0, 2), Check.STATE);
        Boundary.refuses("14 fill: the argument ahead of the state", () -> Shapes.facesUsed(Shapes.triangle(), 160),
                m -> m.fill(2, 0), Check.ARGUMENT);
    }

    private static QuarryMesh triangleAt(int a, int b, int c) {
        QuarryMesh mesh = new QuarryMesh();
        mesh.point(a, 0, -a);
        mesh.point(b, 0, -b);
        mesh.point(c, 0, -c);
        mesh.face(0, 1, 2, -1);
        return mesh;
    }

    private static void promise15Middles() {
        int[][] sums = {{0, 0, 1, 0}, {0, 0, -1, 0}, {0, 0, 2, 0}, {0, 0, -2, 0}, {0, 0, 3, 1}, {0, 0, -3, -1},
            {1, 2, 2, 1}, {-1, -2, -2, -1}, {500, 500, 500, 500}, {-500, -500, -500, -500}, {500, -500, -2, 0}};
        for (int[] v : sums) {
            Boundary.answers("15 quarters: the middle of " + v[0] + ", " + v[1] + " and " + v[2] + ", cut towards 0",
                    () -> triangleAt(v[0], v[1], v[2]),
                            m -> m.quarters() + ": " + Check.place(m, 6), "3: " + v[3] + " 0 " + -v[3]);
        }
        Boundary.answers("15 quarters: the middle of 0 and -3", () -> triangleAt(0, -3, 1),
                m -> m.quarters() + ": " + Check.place(m, 3), "3: -1 0 1");
        Boundary.answers("15 quarters: the middle of 0 and 1", () -> triangleAt(0, -3, 1),
                m -> m.quarters() + ": " + Check.place(m, 4), "3: 0 0 0");
        Boundary.answers("15 quarters: the middle of -3 and 1", () -> triangleAt(0, -3, 1),
                m -> m.quarters() + ": " + Check.place(m, 5), "3: -1 0 1");
    }

    private static void promise15Rings() {
        Boundary.answers("15 quarters: nothing at all", QuarryMesh::new, m -> m.quarters() + " " + m.points(), "0 0");
        Boundary.answers("15 quarters: POINTS without FACES", () -> Shapes.points(4),
                m -> m.quarters() + " " + m.points(), "0 4");
        Boundary.answers("15 quarters: all FACES are GONE", () -> Shapes.without(Shapes.box(), 0, 1, 2, 3, 4, 5),
                m -> m.quarters() + " " + m.points(), "0 8");
        Boundary.answers("15 quarters: of the first POINT, back to the last one", Shapes::triangle,
                m -> m.quarters() + ": " + Check.ring(m, 1), "3: 0 3 6 4");
        Boundary.answers("15 quarters: of the last POINT, on to the first one", Shapes::triangle,
                m -> m.quarters() + ": " + Check.ring(m, 3), "3: 2 4 6 5");
        Boundary.answers("15 quarters: 12 POINTS, the first one", () -> Shapes.polygon(12),
                m -> m.quarters() + ": " + Check.ring(m, 1), "12: 0 12 24 13");
        Boundary.answers("15 quarters: 12 POINTS, the last one", () -> Shapes.polygon(12),
                m -> m.quarters() + ": " + Check.ring(m, 12), "12: 11 13 24 23");
        Boundary.answers("15 quarters: an EDGE with both HALVES once", Shapes::twoTriangles,
                m -> m.quarters() + " " + m.points(), "6 11");
        Boundary.answers("15 quarters: two sides", Shapes::twoSides,
                m -> m.quarters() + " " + m.points() + " " + m.holes(), "6 8 0");
        Boundary.answers("15 quarters: an EDGE with the greater number first in its FACE", () -> {
            QuarryMesh mesh = Shapes.points(3);
            mesh.face(2, 1, 0, -1);
            return mesh;
        }, m -> m.quarters() + ": " + Check.ring(m, 1), "3: 2 5 6 4");
        Boundary.answers("15 quarters: a GONE FACE has none", () -> Shapes.without(Shapes.twoTriangles(), 0),
                m -> m.quarters() + ": " + Check.ring(m, 2), "3: 1 4 7 6");
        Boundary.answers("15 quarters: a POINT in no FACE stays", () -> Shapes.without(Shapes.twoTriangles(), 0),
                m -> m.quarters() + ": " + Check.place(m, 2), "3: 0 4 0");
        Boundary.answers("15 quarters: all old FACES are GONE", Shapes::twoTriangles,
                m -> m.quarters() + " " + Check.answer(() -> m.size(0)) + " " + Check.answer(() -> m.size(1)),
                "6 " + Check.INDEX + " " + Check.INDEX);
    }

    private static void promise15Limits() {
        Boundary.answers("15 quarters: up to the 100th POINT", () -> Shapes.pointsUsed(Shapes.triangle(), 96),
                m -> m.quarters() + " " + m.points(), "3 100");
        for (int ever = 97; ever <= 100; ever++) {
            int used = ever;
            Boundary.refuses("15 quarters: " + ever + " POINTS were there", () -> Shapes.pointsUsed(Shapes.triangle(), used),
                    QuarryMesh::quarters, Check.STATE);
        }
        Boundary.answers("15 quarters: up to the 160th FACE", () -> Shapes.facesUsed(Shapes.triangle(), 157),
                m -> m.quarters() + " " + m.size(159), "3 4");
        for (int ever = 158; ever <= 160; ever++) {
            int used = ever;
            Boundary.refuses("15 quarters: " + ever + " FACES were there", () -> Shapes.facesUsed(Shapes.triangle(), used),
                    QuarryMesh::quarters, Check.STATE);
        }
        Boundary.answers("15 quarters: a box twice, up to the 98th POINT", () -> quartered(Shapes.box(), 1),
                m -> m.quarters() + " " + m.points(), "96 98");
        Boundary.refuses("15 quarters: a box three times", () -> quartered(Shapes.box(), 2),
                QuarryMesh::quarters, Check.STATE);
        Boundary.answers("15 quarters: without FACES, 100 POINTS were there", () -> Shapes.pointsUsed(new QuarryMesh(), 100),
                QuarryMesh::quarters, 0);
        Boundary.answers("15 quarters: without FACES, 160 were there", () -> Shapes.facesUsed(new QuarryMesh(), 160),
                QuarryMesh::quarters, 0);
    }

    private static QuarryMesh quartered(QuarryMesh mesh, int times) {
        for (int i = 0; i < times; i++) {
            mesh.quarters();
        }
        return mesh;
    }

    private static void promise16Stays() {
        Boundary.answers("16 smooth: nothing at all", QuarryMesh::new, QuarryMesh::smooth, 0);
        Boundary.answers("16 smooth: without NEIGHBOURS", () -> Shapes.points(3),
                m -> m.smooth() + ": " + Check.place(m, 2), "0: 2 4 2");
        Boundary.answers("16 smooth: with NEIGHBOURS no more", () -> Shapes.without(Shapes.twoSides(), 0, 1),
                QuarryMesh::smooth, 0);
        Boundary.answers("16 smooth: all have OPEN HALVES", Shapes::twoTriangles, QuarryMesh::smooth, 0);
        Boundary.answers("16 smooth: those at a HOLE stay", () -> Shapes.without(Shapes.box(), 0),
                m -> m.smooth() + ": " + Check.place(m, 0), "4: 0 0 0");
        Boundary.answers("16 smooth: at a closed FAN and an OPEN HALF", WholesBoundaryTest::boxAndTriangle,
                m -> m.smooth() + ": " + Check.place(m, 0), "7: 0 0 0");
        Boundary.answers("16 smooth: to where it is", () -> flatBothSides(5, 5),
                m -> m.smooth() + ": " + Check.place(m, 0), "0: 5 5 5");
    }

    private static QuarryMesh boxAndTriangle() {
        QuarryMesh mesh = Shapes.box();
        mesh.face(0, mesh.point(9, 9, 9), mesh.point(8, 9, 9), -1);
        return mesh;
    }

    /** Two sides of a FACE of three POINTS, the last one of which is elsewhere. */
    private static QuarryMesh flatBothSides(int v, int last) {
        QuarryMesh mesh = flatAt(v);
        mesh.move(2, last, last, last);
        mesh.face(2, 1, 0, -1);
        return mesh;
    }

    private static void promise16Moves() {
        int[][] means = {{0, 1, 0}, {0, -1, 0}, {0, -3, -1}, {0, 3, 1}, {500, 500, 500}, {-500, -500, -500}, {500, -500, 0}};
        for (int[] v : means) {
            Boundary.answers("16 smooth: between " + v[0] + " and " + v[1] + ", cut towards 0", () -> flatBothSides(v[0], v[1]),
                    m -> m.smooth() >= 0 ? Check.place(m, 1) : "", v[2] + " " + v[2] + " " + v[2]);
        }
        Boundary.answers("16 smooth: NEIGHBOURS as they were ahead of this", () -> flatBothSides(0, 8),
                m -> m.smooth() + ": " + Check.place(m, 2), "3: 0 0 0");
        Boundary.answers("16 smooth: each NEIGHBOUR once", () -> Shapes.closedFan(3),
                m -> m.smooth() + ": " + m.at(0, 0), "1: 2");
        Boundary.answers("16 smooth: NEIGHBOURS at OPEN HALVES count", () -> Shapes.closedFan(3),
                m -> m.smooth() + ": " + Check.place(m, 0) + ", " + Check.place(m, 3), "1: 2 4 2, 3 9 3");
        Boundary.answers("16 smooth: 99 NEIGHBOURS", () -> Shapes.closedFan(99),
                m -> m.smooth() + ": " + m.at(0, 0), "1: 50");
        for (int axis = 0; axis < 3; axis++) {
            int[] at = {axis == 0 ? 1 : 0, axis == 1 ? 1 : 0, axis == 2 ? 1 : 0};
            Boundary.answers("16 smooth: elsewhere along " + axis + " alone", () -> {
                QuarryMesh mesh = flatBothSides(0, 0);
                mesh.move(2, at[0], at[1], at[2]);
                return mesh;
            }, QuarryMesh::smooth, 1);
        }
    }

    private static void promise17() {
        Boundary.answers("17 turn: nothing at all", QuarryMesh::new, QuarryMesh::turn, 0);
        Boundary.answers("17 turn: POINTS without FACES", () -> Shapes.points(3), QuarryMesh::turn, 0);
        Boundary.answers("17 turn: all FACES are GONE", () -> Shapes.without(Shapes.twoTriangles(), 0, 1),
                QuarryMesh::turn, 0);
        Boundary.answers("17 turn: a GONE FACE stays GONE", () -> Shapes.without(Shapes.twoTriangles(), 0),
                m -> m.turn() + " " + Check.answer(() -> m.size(0)), "1 " + Check.INDEX);
        Boundary.answers("17 turn: 3 POINTS, the first one stays", Shapes::triangle,
                m -> m.turn() + ": " + Check.ring(m, 0), "1: 0 2 1");
        Boundary.answers("17 turn: 12 POINTS", () -> Shapes.polygon(12),
                m -> m.turn() + ": " + Check.ring(m, 0), "1: 0 11 10 9 8 7 6 5 4 3 2 1");
        Boundary.answers("17 turn: two sides change their HALVES", Shapes::twoSides,
                m -> m.turn() + ": " + m.faceOf(0, 1) + " " + m.faceOf(1, 0), "2: 1 0");
        Boundary.answers("17 turn: the OPEN HALVES", Shapes::triangle,
                m -> m.turn() + ": " + m.hole(0, 1) + " " + m.hole(1, 0), "1: 3 0");
        Boundary.answers("17 turn: twice", Shapes::box,
                m -> m.turn() + m.turn() + ": " + m.digest(), "12: " + Shapes.box().digest());
        Boundary.answers("17 turn: 160 FACES", Shapes::crowded,
                m -> m.turn() + ": " + Check.ring(m, 159), "160: 62 69 64");
        Boundary.answers("17 turn: 160 FACES were there, all GONE", () -> Shapes.facesUsed(new QuarryMesh(), 160),
                QuarryMesh::turn, 0);
    }
}
