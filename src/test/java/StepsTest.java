/** Promises 8 to 17. */
public final class StepsTest {
    public static void main(String[] args) {
        promise08Split();
        promise08SplitRefused();
        promise09Cut();
        promise09CutRefused();
        promise10Join();
        promise10JoinRefused();
        promise11Collapse();
        promise11CollapseOtherRings();
        promise11CollapseRefused();
        promise12Flip();
        promise12FlipRefused();
        promise13Draw();
        promise13DrawRefused();
        promise14Fill();
        promise14FillRefused();
        promise15Quarters();
        promise15QuartersRefused();
        promise16Smooth();
        promise16SmoothOpen();
        promise17Turn();
        Check.end();
    }

    /** A pair of numbers of which one or both are no POINTS, for a mesh with POINTS 0 and 1 and fewer than 50. */
    private static void refusesNoPoints(String what, QuarryMesh mesh, PairCall call) {
        for (int p : new int[] {-1, 50, 99, 100, Integer.MIN_VALUE, Integer.MAX_VALUE}) {
            Check.refused(what + ": no POINT " + p, mesh, Check.INDEX,
                    () -> call.run(p, 0), () -> call.run(0, p), () -> call.run(p, p));
        }
    }

    private interface PairCall {
        Object run(int a, int b);
    }

    private static void promise08Split() {
        QuarryMesh mesh = Shapes.box();
        Check.same("split: the new POINT", () -> mesh.split(0, 1), 8);
        Check.same("split: its place", () -> Check.place(mesh, 8), "1 0 0");
        Check.same("split: right behind a", () -> Check.ring(mesh, 2), "0 8 1 5 4");
        Check.same("split: right behind b, the last one", () -> Check.ring(mesh, 0), "0 3 2 1 8");
        Check.same("split: another FACE", () -> Check.ring(mesh, 1), "4 5 6 7");
        Check.same("split: edges()", mesh::edges, 13);
        Check.same("split: holes()", mesh::holes, 0);
        Check.same("split: no EDGE any more", () -> mesh.split(0, 1), Check.ARGUMENT);
        Check.same("split: one of its halves", () -> mesh.split(8, 1), 9);
        Check.same("split: cut towards 0", () -> Check.place(mesh, 9), "1 0 0");
        QuarryMesh open = Shapes.triangle();
        open.move(0, -3, -1, 5);
        open.move(2, 0, 0, 0);
        Check.same("split: of the OPEN HALF (0, 2)", () -> open.split(0, 2), 3);
        Check.same("split: cut towards 0", () -> Check.place(open, 3), "-1 0 2");
        Check.same("split: the last one", () -> Check.ring(open, 0), "0 1 2 3");
        Check.same("split: of (1, 2)", () -> open.split(1, 2), 4);
        Check.same("split: in between", () -> Check.ring(open, 0), "0 1 4 2 3");
    }

    private static void promise08SplitRefused() {
        QuarryMesh mesh = Shapes.twoTriangles();
        refusesNoPoints("split", mesh, mesh::split);
        Check.refused("split: no EDGE", mesh, Check.ARGUMENT,
                () -> mesh.split(2, 3), () -> mesh.split(3, 2), () -> mesh.split(0, 0));
        QuarryMesh full = Shapes.polygon(12);
        Check.refused("split: 13 POINTS in a RING", full, Check.STATE, () -> full.split(0, 1), () -> full.split(1, 0));
        int p = full.point(9, 9, 9);
        full.face(1, 0, p, -1);
        Check.refused("split: 13 in one of two RINGS", full, Check.STATE,
                () -> full.split(0, 1), () -> full.split(1, 0));
        Check.same("split: an EDGE of the other RING alone", () -> full.split(0, p), 13);
        QuarryMesh eleven = Shapes.polygon(11);
        Check.same("split: 12 POINTS in a RING", () -> eleven.split(0, 1), 11);
        QuarryMesh many = Shapes.twoTriangles();
        Shapes.usePoints(many, 99);
        Check.same("split: the 100th POINT", () -> many.split(1, 0), 99);
        Check.refused("split: 100 POINTS were there", many, Check.STATE, () -> many.split(1, 2));
        Check.refused("split: the argument ahead of the state", many, Check.ARGUMENT, () -> many.split(2, 3));
    }

    private static void promise09Cut() {
        QuarryMesh mesh = Shapes.box();
        Check.same("cut: the new FACE", () -> mesh.cut(1, 4, 6), 6);
        Check.same("cut: from a on up to b", () -> Check.ring(mesh, 1), "4 5 6");
        Check.same("cut: from b on up to a", () -> Check.ring(mesh, 6), "6 7 4");
        Check.same("cut: the HALVES", () -> mesh.faceOf(6, 4) + " " + mesh.faceOf(4, 6) + " " + mesh.faceOf(6, 7), "1 6 6");
        QuarryMesh round = Shapes.polygon(7);
        Check.same("cut: over the end", () -> round.cut(0, 5, 1), 1);
        Check.same("cut: from a on", () -> Check.ring(round, 0), "5 6 0 1");
        Check.same("cut: from b on", () -> Check.ring(round, 1), "1 2 3 4 5");
        Check.same("cut: again", () -> round.cut(1, 2, 5), 2);
        Check.same("cut: from a on", () -> Check.ring(round, 1), "2 3 4 5");
        Check.same("cut: from b on", () -> Check.ring(round, 2), "5 1 2");
    }

    private static void promise09CutRefused() {
        QuarryMesh mesh = Shapes.box();
        for (int f : new int[] {-1, 6, 159, 160, Integer.MIN_VALUE, Integer.MAX_VALUE}) {
            Check.refused("cut: no FACE " + f, mesh, Check.INDEX, () -> mesh.cut(f, 4, 6), () -> mesh.cut(f, 0, 0));
        }
        Check.refused("cut: not in its RING", mesh, Check.ARGUMENT,
                () -> mesh.cut(1, 4, 0), () -> mesh.cut(1, 0, 4), () -> mesh.cut(1, -1, 4), () -> mesh.cut(1, 4, -1),
                () -> mesh.cut(1, -1, -1), () -> mesh.cut(1, 1000, 4), () -> mesh.cut(1, 4, Integer.MAX_VALUE),
                () -> mesh.cut(1, 5, 0), () -> mesh.cut(1, 0, 5), () -> mesh.cut(1, 0, 6), () -> mesh.cut(1, 6, 0),
                () -> mesh.cut(1, 0, 0), () -> mesh.cut(1, 7, 3));
        Check.refused("cut: the same, or beside each other", mesh, Check.ARGUMENT,
                () -> mesh.cut(1, 4, 4), () -> mesh.cut(1, 4, 5), () -> mesh.cut(1, 5, 4),
                () -> mesh.cut(1, 7, 4), () -> mesh.cut(1, 4, 7));
        mesh.dropFace(5);
        Check.refused("cut: a GONE FACE", mesh, Check.INDEX, () -> mesh.cut(5, 3, 4));
        QuarryMesh taken = Shapes.points(5);
        taken.face(0, 1, 2, 3);
        taken.face(0, 2, 4, -1);
        Check.refused("cut: (a, b) or (b, a) is in a FACE", taken, Check.STATE,
                () -> taken.cut(0, 0, 2), () -> taken.cut(0, 2, 0));
        QuarryMesh many = Shapes.points(4);
        Shapes.useFaces(many, 158);
        many.face(0, 1, 2, 3);
        Check.same("cut: the 160th FACE", () -> many.cut(158, 1, 3), 159);
        QuarryMesh full = Shapes.points(4);
        Shapes.useFaces(full, 159);
        full.face(0, 1, 2, 3);
        Check.refused("cut: 160 FACES were there", full, Check.STATE, () -> full.cut(159, 1, 3));
        Check.refused("cut: the argument ahead of the state", full, Check.ARGUMENT, () -> full.cut(159, 1, 2));
    }

    private static void promise10Join() {
        QuarryMesh mesh = Shapes.box();
        Check.same("join: the FACE of (a, b) is left", () -> mesh.join(0, 1), 2);
        Check.same("join: its RING", () -> Check.ring(mesh, 2), "1 5 4 0 3 2");
        Check.same("join: the other one is GONE", () -> mesh.size(0), Check.INDEX);
        Check.same("join: faces(), points()", () -> mesh.faces() + " " + mesh.points(), "5 8");
        Check.same("join: the HALVES", () -> mesh.faceOf(0, 1) + " " + mesh.faceOf(1, 0) + " " + mesh.faceOf(3, 2), "-1 -1 2");
        QuarryMesh other = Shapes.box();
        Check.same("join: the other way round", () -> other.join(1, 0), 0);
        Check.same("join: its RING", () -> Check.ring(other, 0), "0 3 2 1 5 4");
        QuarryMesh triangles = Shapes.twoTriangles();
        Check.same("join: two of three", () -> triangles.join(0, 1), 0);
        Check.same("join: its RING", () -> Check.ring(triangles, 0), "1 2 0 3");
        Check.same("join: holes(), edges()", () -> triangles.holes() + " " + triangles.edges(), "1 4");
    }

    private static void promise10JoinRefused() {
        QuarryMesh mesh = Shapes.twoTriangles();
        refusesNoPoints("join", mesh, mesh::join);
        Check.refused("join: a HALF in no FACE", mesh, Check.ARGUMENT,
                () -> mesh.join(1, 2), () -> mesh.join(2, 1), () -> mesh.join(2, 3), () -> mesh.join(0, 0));
        QuarryMesh sides = Shapes.twoSides();
        Check.refused("join: another POINT in common", sides, Check.STATE,
                () -> sides.join(0, 1), () -> sides.join(1, 0), () -> sides.join(2, 0));
        QuarryMesh twelve = ringsOf(7, 7);
        Check.same("join: 12 POINTS", () -> twelve.join(0, 1), 0);
        Check.same("join: 12 POINTS", () -> twelve.size(0), 12);
        QuarryMesh thirteen = ringsOf(7, 8);
        Check.refused("join: 13 POINTS", thirteen, Check.STATE, () -> thirteen.join(0, 1), () -> thirteen.join(1, 0));
    }

    /** Two FACES with one EDGE, 0 to 1, in common, with so many POINTS. */
    private static QuarryMesh ringsOf(int one, int two) {
        QuarryMesh mesh = Shapes.twoTriangles();
        for (int i = 3, last = 2; i < one; i++) {
            last = mesh.split(last, 0);
        }
        for (int i = 3, last = 3; i < two; i++) {
            last = mesh.split(last, 1);
        }
        return mesh;
    }

    private static void promise11Collapse() {
        QuarryMesh mesh = Shapes.box();
        Check.same("collapse: no FACE is GONE", () -> mesh.collapse(0, 1), 0);
        Check.same("collapse: with both", () -> Check.ring(mesh, 0), "0 3 2");
        Check.same("collapse: with both", () -> Check.ring(mesh, 2), "0 5 4");
        Check.same("collapse: with b alone", () -> Check.ring(mesh, 3), "0 2 6 5");
        Check.same("collapse: without b", () -> Check.ring(mesh, 5), "3 0 4 7");
        Check.same("collapse: b is GONE", () -> mesh.at(1, 0), Check.INDEX);
        Check.same("collapse: a stays where it is", () -> Check.place(mesh, 0), "0 0 0");
        Check.same("collapse: FACES of two POINTS are GONE", () -> mesh.collapse(2, 0), 1);
        Check.same("collapse: that one", () -> mesh.size(0), Check.INDEX);
        Check.same("collapse: another", () -> Check.ring(mesh, 3), "2 6 5");
        Check.same("collapse: another", () -> Check.ring(mesh, 2), "2 5 4");
        Check.same("collapse: another", () -> Check.ring(mesh, 5), "3 2 4 7");
        Check.same("collapse: holes(), faces()", () -> mesh.holes() + " " + mesh.faces(), "0 5");
        QuarryMesh tetrahedron = Shapes.tetrahedron();
        Check.same("collapse: two FACES are GONE", () -> tetrahedron.collapse(3, 0), 2);
        Check.same("collapse: two are left", tetrahedron::faces, 2);
        QuarryMesh lone = Shapes.twoTriangles();
        Check.same("collapse: 2 to 0", () -> lone.collapse(0, 2), 1);
        Check.same("collapse: an OPEN HALF too", () -> lone.collapse(1, 3), Check.STATE);
        Check.same("collapse: POINTS in no FACE stay", lone::points, 3);
    }

    private static void promise11CollapseOtherRings() {
        QuarryMesh apart = Shapes.points(5);
        apart.face(0, 1, 2, 3);
        apart.face(0, 2, 4, -1);
        Check.same("collapse: not beside each other in a RING", () -> apart.collapse(0, 2), 1);
        Check.same("collapse: b goes wherever it is", () -> Check.ring(apart, 0), "0 1 3");
        Check.same("collapse: the POINT of no FACE stays", () -> apart.around(4, 1), 0);
        QuarryMesh handed = Shapes.points(4);
        handed.face(0, 2, 1, -1);
        handed.face(0, 1, 2, 3);
        Check.same("collapse: a HALF of a FACE that goes is another one's then", () -> handed.collapse(0, 1), 1);
        Check.same("collapse: its RING", () -> Check.ring(handed, 1), "0 2 3");
        Check.same("collapse: its HALVES", () -> handed.faceOf(0, 2) + " " + handed.faceOf(2, 3) + " " + handed.faceOf(3, 0), "1 1 1");
        QuarryMesh stays = Shapes.points(4);
        stays.face(0, 1, 2, 3);
        stays.face(0, 2, 1, -1);
        Check.same("collapse: the same, the other number first", () -> stays.collapse(0, 1), 1);
        Check.same("collapse: its HALVES", () -> stays.faceOf(0, 2) + " " + stays.faceOf(2, 3) + " " + stays.faceOf(3, 0), "0 0 0");
    }

    private static void promise11CollapseRefused() {
        QuarryMesh mesh = Shapes.twoTriangles();
        refusesNoPoints("collapse", mesh, mesh::collapse);
        Check.refused("collapse: no NEIGHBOURS", mesh, Check.ARGUMENT,
                () -> mesh.collapse(2, 3), () -> mesh.collapse(3, 2), () -> mesh.collapse(0, 0));
        Check.refused("collapse: no FACE left", mesh, Check.STATE,
                () -> mesh.collapse(0, 1), () -> mesh.collapse(1, 0));
        QuarryMesh alone = Shapes.triangle();
        Check.refused("collapse: no FACE left", alone, Check.STATE,
                () -> alone.collapse(0, 1), () -> alone.collapse(1, 0), () -> alone.collapse(0, 2));
        QuarryMesh twice = Shapes.points(6);
        twice.face(0, 1, 2, -1);
        twice.face(0, 3, 4, -1);
        twice.face(1, 3, 5, -1);
        Check.refused("collapse: a HALF in two FACES", twice, Check.STATE,
                () -> twice.collapse(0, 1), () -> twice.collapse(1, 0));
        QuarryMesh oneWay = Shapes.oneWay();
        Check.refused("collapse: a HALF in two FACES that way alone", oneWay, Check.STATE,
                () -> oneWay.collapse(3, 1), () -> oneWay.collapse(0, 3), () -> oneWay.collapse(3, 0));
        Check.same("collapse: where HALVES change their FACES", () -> oneWay.may(0), 11);
        Check.same("collapse: the other way", () -> oneWay.collapse(1, 3), 1);
        Check.same("collapse: its RING", () -> Check.ring(oneWay, 2), "2 1 0");
    }

    private static void promise12Flip() {
        QuarryMesh mesh = Shapes.twoTriangles();
        Check.same("flip: 1000 * c + d", () -> mesh.flip(0, 1), 2003);
        Check.same("flip: the first FACE", () -> Check.ring(mesh, 0), "2 3 1");
        Check.same("flip: the second FACE", () -> Check.ring(mesh, 1), "3 2 0");
        Check.same("flip: the EDGE", () -> mesh.faceOf(2, 3) + " " + mesh.faceOf(3, 2) + " " + mesh.faceOf(0, 1), "0 1 -1");
        Check.same("flip: the others' HALVES", () -> mesh.faceOf(1, 2) + " " + mesh.faceOf(0, 3) + " "
                + mesh.faceOf(3, 1) + " " + mesh.faceOf(2, 0), "0 1 0 1");
        Check.same("flip: back, the other way round", () -> mesh.flip(3, 2), 1);
        Check.same("flip: the first FACE", () -> Check.ring(mesh, 1), "0 1 2");
        Check.same("flip: the second FACE", () -> Check.ring(mesh, 0), "1 0 3");
        QuarryMesh other = Shapes.twoTriangles();
        Check.same("flip: the other way round", () -> other.flip(1, 0), 3002);
        Check.same("flip: the first FACE", () -> Check.ring(other, 1), "3 2 0");
        Check.same("flip: the second FACE", () -> Check.ring(other, 0), "2 3 1");
    }

    private static void promise12FlipRefused() {
        QuarryMesh mesh = Shapes.twoTriangles();
        refusesNoPoints("flip", mesh, mesh::flip);
        Check.refused("flip: a HALF in no FACE", mesh, Check.ARGUMENT,
                () -> mesh.flip(1, 2), () -> mesh.flip(2, 1), () -> mesh.flip(2, 3), () -> mesh.flip(0, 0));
        QuarryMesh box = Shapes.box();
        Check.refused("flip: two FACES of 4", box, Check.ARGUMENT, () -> box.flip(0, 1));
        box.cut(0, 0, 2);
        Check.refused("flip: one of 4", box, Check.ARGUMENT, () -> box.flip(0, 1), () -> box.flip(1, 0));
        QuarryMesh sides = Shapes.twoSides();
        Check.refused("flip: c is d", sides, Check.STATE, () -> sides.flip(0, 1), () -> sides.flip(1, 0));
        QuarryMesh tetrahedron = Shapes.tetrahedron();
        Check.refused("flip: an EDGE between c and d", tetrahedron, Check.STATE,
                () -> tetrahedron.flip(0, 1), () -> tetrahedron.flip(2, 3));
        for (int[] ring : new int[][] {{2, 3, 4}, {3, 2, 4}}) {
            QuarryMesh half = Shapes.twoTriangles();
            half.point(9, 9, 9);
            half.face(ring[0], ring[1], ring[2], -1);
            Check.refused("flip: a HALF between c and d", half, Check.STATE,
                    () -> half.flip(0, 1), () -> half.flip(1, 0));
        }
    }

    private static void promise13Draw() {
        QuarryMesh mesh = Shapes.triangle();
        Check.same("draw: the first new POINT", () -> mesh.draw(0, 1, -2, 5), 3);
        Check.same("draw: the places", () -> Check.place(mesh, 3) + ", " + Check.place(mesh, 4) + ", "
                + Check.place(mesh, 5), "1 -2 5, 5 -2 5, 1 2 5");
        Check.same("draw: its own RING", () -> Check.ring(mesh, 0), "3 4 5");
        Check.same("draw: a side", () -> Check.ring(mesh, 1), "0 1 4 3");
        Check.same("draw: a side", () -> Check.ring(mesh, 2), "1 2 5 4");
        Check.same("draw: a side", () -> Check.ring(mesh, 3), "2 0 3 5");
        Check.same("draw: holes(), faces()", () -> mesh.holes() + " " + mesh.faces(), "1 4");
        Check.same("draw: the HALVES", () -> mesh.faceOf(0, 1) + " " + mesh.faceOf(3, 4) + " " + mesh.faceOf(4, 3), "1 0 1");
        QuarryMesh box = Shapes.box();
        Check.same("draw: by nothing", () -> box.draw(5, 0, 0, 0), 8);
        Check.same("draw: its own RING", () -> Check.ring(box, 5), "8 9 10 11");
        Check.same("draw: a side", () -> Check.ring(box, 6), "3 0 9 8");
        Check.same("draw: the last side", () -> Check.ring(box, 9), "7 3 8 11");
        Check.same("draw: holes()", box::holes, 0);
        QuarryMesh far = Shapes.triangle();
        Check.same("draw: up to 500", () -> far.draw(0, 496, -500, 500), 3);
    }

    private static void promise13DrawRefused() {
        QuarryMesh mesh = Shapes.triangle();
        for (int f : new int[] {-1, 1, 159, 160, Integer.MIN_VALUE, Integer.MAX_VALUE}) {
            Check.refused("draw: no FACE " + f, mesh, Check.INDEX,
                    () -> mesh.draw(f, 0, 0, 0), () -> mesh.draw(f, 501, 0, 0));
        }
        Check.refused("draw: out of reach", mesh, Check.ARGUMENT,
                () -> mesh.draw(0, 497, 0, 0), () -> mesh.draw(0, -501, 0, 0), () -> mesh.draw(0, 0, 497, 0),
                () -> mesh.draw(0, 0, -501, 0), () -> mesh.draw(0, 0, 0, 501), () -> mesh.draw(0, 0, 0, -501),
                () -> mesh.draw(0, Integer.MAX_VALUE, 0, 0), () -> mesh.draw(0, 0, Integer.MIN_VALUE, 0),
                () -> mesh.draw(0, 0, 0, Integer.MAX_VALUE));
        QuarryMesh many = Shapes.triangle();
        Shapes.usePoints(many, 97);
        Check.same("draw: up to the 100th POINT", () -> many.draw(0, 1, 1, 1), 97);
        QuarryMesh full = Shapes.triangle();
        Shapes.usePoints(full, 98);
        Check.refused("draw: more than 100 POINTS", full, Check.STATE, () -> full.draw(0, 1, 1, 1));
        Check.refused("draw: the argument ahead of the state", full, Check.ARGUMENT, () -> full.draw(0, 500, 1, 1));
        QuarryMesh faces = Shapes.triangle();
        Shapes.useFaces(faces, 157);
        Check.same("draw: up to the 160th FACE", () -> faces.draw(0, 1, 1, 1), 6);
        QuarryMesh more = Shapes.triangle();
        Shapes.useFaces(more, 158);
        Check.refused("draw: more than 160 FACES", more, Check.STATE, () -> more.draw(0, 1, 1, 1));
    }

    private static void promise14Fill() {
        QuarryMesh mesh = Shapes.box();
        mesh.dropFace(1);
        Check.same("fill: the new FACE", () -> mesh.fill(6, 7), 6);
        Check.same("fill: from a on", () -> Check.ring(mesh, 6), "6 7 4 5");
        Check.same("fill: holes(), volume()", () -> mesh.holes() + " " + mesh.volume(), "0 48");
        QuarryMesh triangle = Shapes.triangle();
        Check.same("fill: around a FACE", () -> triangle.fill(0, 2), 1);
        Check.same("fill: its RING", () -> Check.ring(triangle, 1), "0 2 1");
        QuarryMesh tie = Shapes.bowTie();
        Check.same("fill: one of two at a POINT", () -> tie.fill(0, 4), 2);
        Check.same("fill: its RING", () -> Check.ring(tie, 2), "0 4 3");
        Check.same("fill: the other one is there", tie::holes, 1);
        QuarryMesh twelve = Shapes.polygon(12);
        Check.same("fill: 12 POINTS", () -> twelve.fill(0, 11), 1);
        Check.same("fill: its RING", () -> Check.ring(twelve, 1), "0 11 10 9 8 7 6 5 4 3 2 1");
    }

    private static void promise14FillRefused() {
        QuarryMesh mesh = Shapes.twoTriangles();
        refusesNoPoints("fill", mesh, mesh::fill);
        Check.refused("fill: not OPEN", mesh, Check.ARGUMENT,
                () -> mesh.fill(0, 1), () -> mesh.fill(1, 2), () -> mesh.fill(2, 3), () -> mesh.fill(0, 0));
        QuarryMesh thirteen = Shapes.polygon(12);
        int p = thirteen.point(9, 9, 9);
        thirteen.face(1, 0, p, -1);
        Check.refused("fill: 13 POINTS", thirteen, Check.STATE, () -> thirteen.fill(2, 1), () -> thirteen.fill(1, p));
        QuarryMesh pinched = Shapes.pinched();
        Check.refused("fill: a POINT twice", pinched, Check.STATE,
                () -> pinched.fill(1, 0), () -> pinched.fill(0, 3), () -> pinched.fill(2, 4));
        QuarryMesh many = Shapes.triangle();
        Shapes.useFaces(many, 159);
        Check.same("fill: the 160th FACE", () -> many.fill(1, 0), 159);
        QuarryMesh full = Shapes.triangle();
        Shapes.useFaces(full, 160);
        Check.refused("fill: 160 FACES were there", full, Check.STATE, () -> full.fill(1, 0));
        Check.refused("fill: the argument ahead of the state", full, Check.ARGUMENT, () -> full.fill(0, 1));
    }

    private static void promise15Quarters() {
        QuarryMesh mesh = Shapes.triangle();
        mesh.move(0, -1, -3, -7);
        Check.same("quarters: how many FACES", mesh::quarters, 3);
        Check.same("quarters: the middle of 0 and 1", () -> Check.place(mesh, 3), "1 -1 -3");
        Check.same("quarters: the middle of 0 and 2", () -> Check.place(mesh, 4), "0 0 -3");
        Check.same("quarters: the middle of 1 and 2", () -> Check.place(mesh, 5), "2 2 0");
        Check.same("quarters: the middle of the FACE", () -> Check.place(mesh, 6), "1 0 -2");
        Check.same("quarters: the old FACE", () -> mesh.size(0), Check.INDEX);
        Check.same("quarters: at 0", () -> Check.ring(mesh, 1), "0 3 6 4");
        Check.same("quarters: at 1", () -> Check.ring(mesh, 2), "1 5 6 3");
        Check.same("quarters: at 2", () -> Check.ring(mesh, 3), "2 4 6 5");
        QuarryMesh box = new QuarryMesh();
        box.box(-8, -8, -8, 16);
        Check.same("quarters: of a box", box::quarters, 24);
        Check.same("quarters: the first EDGE, 0 to 1", () -> Check.place(box, 8), "0 -8 -8");
        Check.same("quarters: the last EDGE, 6 to 7", () -> Check.place(box, 19), "0 8 8");
        Check.same("quarters: the last FACE", () -> Check.place(box, 25), "-8 0 0");
        Check.same("quarters: the first one", () -> Check.ring(box, 6), "0 9 20 8");
        Check.same("quarters: the last one", () -> Check.ring(box, 29), "7 15 25 17");
        Check.same("quarters: volume(), holes()", () -> box.volume() + " " + box.holes(), "24576 0");
        QuarryMesh none = Shapes.points(2);
        Check.same("quarters: without FACES", none::quarters, 0);
        Check.same("quarters: without FACES", none::points, 2);
    }

    private static void promise15QuartersRefused() {
        QuarryMesh many = Shapes.triangle();
        Shapes.usePoints(many, 96);
        Check.same("quarters: up to the 100th POINT", many::quarters, 3);
        QuarryMesh full = Shapes.triangle();
        Shapes.usePoints(full, 97);
        Check.refused("quarters: more than 100 POINTS", full, Check.STATE, full::quarters);
        QuarryMesh faces = Shapes.triangle();
        Shapes.useFaces(faces, 157);
        Check.same("quarters: up to the 160th FACE", faces::quarters, 3);
        QuarryMesh more = Shapes.triangle();
        Shapes.useFaces(more, 158);
        Check.refused("quarters: more than 160 FACES", more, Check.STATE, more::quarters);
    }

    private static void promise16Smooth() {
        QuarryMesh mesh = Shapes.tetrahedron();
        int lone = mesh.point(77, 78, 79);
        Check.same("smooth: how many are elsewhere", mesh::smooth, 4);
        String[] places = {"2 2 2", "0 2 2", "2 0 2", "2 2 0"};
        for (int i = 0; i < 4; i++) {
            int p = i;
            Check.same("smooth: from the places ahead of it", () -> Check.place(mesh, p), places[i]);
        }
        Check.same("smooth: without NEIGHBOURS", () -> Check.place(mesh, lone), "77 78 79");
        QuarryMesh cut = Shapes.tetrahedron();
        cut.move(0, -4, -5, 1);
        cut.move(1, -4, 0, -1);
        cut.move(2, 0, 0, -1);
        cut.smooth();
        Check.same("smooth: cut towards 0", () -> Check.place(cut, 3), "-2 -1 0");
        QuarryMesh one = Shapes.tetrahedron();
        for (int p = 0; p < 4; p++) {
            one.move(p, 5, 5, 5);
        }
        Check.same("smooth: all where they were", one::smooth, 0);
        one.move(3, 5, 5, 6);
        Check.same("smooth: one back, the others not elsewhere", one::smooth, 1);
        one.move(3, 5, 6, 5);
        Check.same("smooth: elsewhere by y alone", one::smooth, 1);
        one.move(3, 6, 5, 5);
        Check.same("smooth: elsewhere by x alone", one::smooth, 1);
    }

    private static void promise16SmoothOpen() {
        QuarryMesh mesh = new QuarryMesh();
        mesh.box(0, 0, 0, 8);
        mesh.dropFace(1);
        int top = mesh.point(9, 1, -100);
        for (int i = 0; i < 4; i++) {
            mesh.face(4 + i, 4 + (i + 1) % 4, top, -1);
        }
        mesh.dropFace(0);
        Check.same("smooth: those at no OPEN HALF", mesh::smooth, 5);
        Check.same("smooth: at an OPEN HALF", () -> Check.place(mesh, 0) + ", " + Check.place(mesh, 2), "0 0 0, 8 8 0");
        Check.same("smooth: its NEIGHBOURS", () -> Check.place(mesh, top), "4 4 8");
        Check.same("smooth: NEIGHBOURS that stay count", () -> Check.place(mesh, 4), "4 2 -21");
        QuarryMesh flat = Shapes.twoTriangles();
        Check.same("smooth: all are at OPEN HALVES", flat::smooth, 0);
        Check.same("smooth: nothing at all", () -> new QuarryMesh().smooth(), 0);
    }

    private static void promise17Turn() {
        QuarryMesh mesh = Shapes.box();
        mesh.cut(1, 4, 6);
        mesh.dropFace(4);
        Check.same("turn: how many FACES", mesh::turn, 6);
        Check.same("turn: from the first POINT on backwards", () -> Check.ring(mesh, 0), "0 1 2 3");
        Check.same("turn: from the first POINT on backwards", () -> Check.ring(mesh, 6), "6 4 7");
        Check.same("turn: a GONE one", () -> mesh.size(4), Check.INDEX);
        Check.same("turn: the HALVES", () -> mesh.faceOf(0, 1) + " " + mesh.faceOf(1, 0) + " " + mesh.faceOf(2, 3)
                + " " + mesh.faceOf(3, 2), "0 2 0 -1");
        Check.same("turn: back", mesh::turn, 6);
        Check.same("turn: back", () -> Check.ring(mesh, 0) + ", " + Check.ring(mesh, 6), "0 3 2 1, 6 7 4");
        Check.same("turn: nothing", () -> new QuarryMesh().turn(), 0);
    }
}
