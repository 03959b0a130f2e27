/** Promises 8 to 17 in ordinary use; their boundary cases stand in StepsBoundaryTest and WholesBoundaryTest. */
public final class StepsTest {
    public static void main(String[] args) {
        promise08Split();
        promise09Cut();
        promise10Join();
        promise11Collapse();
        promise11CollapseOtherRings();
        promise12Flip();
        promise13Draw();
        promise14Fill();
        promise15Quarters();
        promise16Smooth();
        promise16SmoothOpen();
        promise17Turn();
        Check.end();
    }

    private static void promise08Split() {
        QuarryMesh mesh = Shapes.box();
        Check.same("split: the new POINT", () -> mesh.split(0, 1), 8);
        Check.same("split: its place", () -> Check.place(mesh, 8), "1 0 0");
        Check.same("split: right behind a", () -> Check.ring(mesh, 2), "0 8 1 5 4");
        Check.same("split: right behind b, the last one", () -> Check.ring(mesh, 0), "0 3 2 1 8");
        Check.same("split: another FACE", () -> Check.ring(mesh, 1), "4 5 6 7");
        Check.same("split: edges()", mesh::edges, 13);
        Check.same("split: holes()", mesh::holes, 0);
        Check.same("split: no EDGE any more", () -> mesh.split(0, 1), Check.ARGUMENT);
        Check.same("split: one of its halves", () -> mesh.split(8, 1), 9);
        Check.same("split: cut towards 0", () -> Check.place(mesh, 9), "1 0 0");
        QuarryMesh open = Shapes.triangle();
        open.move(0, -3, -1, 5);
        open.move(2, 0, 0, 0);
        Check.same("split: of the OPEN HALF (0, 2)", () -> open.split(0, 2), 3);
        Check.same("split: cut towards 0", () -> Check.place(open, 3), "-1 0 2");
        Check.same("split: the last one", () -> Check.ring(open, 0), "0 1 2 3");
        Check.same("split: of (1, 2)", () -> open.split(1, 2), 4);
        Check.same("split: in between", () -> Check.ring(open, 0), "0 1 4 2 3");
    }

    private static void promise09Cut() {
        QuarryMesh mesh = Shapes.box();
        Check.same("cut: the new FACE", () -> mesh.cut(1, 4, 6), 6);
        Check.same("cut: from a on up to b", () -> Check.ring(mesh, 1), "4 5 6");
        Check.same("cut: from b on up to a", () -> Check.ring(mesh, 6), "6 7 4");
        Check.same("cut: the HALVES", () -> mesh.faceOf(6, 4) + " " + mesh.faceOf(4, 6) + " " + mesh.faceOf(6, 7), "1 6 6");
        QuarryMesh round = Shapes.polygon(7);
        Check.same("cut: over the end", () -> round.cut(0, 5, 1), 1);
        Check.same("cut: from a on", () -> Check.ring(round, 0), "5 6 0 1");
        Check.same("cut: from b on", () -> Check.ring(round, 1), "1 2 3 4 5");
        Check.same("cut: again", () -> round.cut(1, 2, 5), 2);
        Check.same("cut: from a on", () -> Check.ring(round, 1), "2 3 4 5");
        Check.same("cut: from b on", () -> Check.ring(round, 2), "5 1 2");
    }

    private static void promise10Join() {
        QuarryMesh mesh = Shapes.box();
        Check.same("join: the FACE of (a, b) is left", () -> mesh.join(0, 1), 2);
        Check.same("join: its RING", () -> Check.ring(mesh, 2), "1 5 4 0 3 2");
        Check.same("join: the other one is GONE", () -> mesh.size(0), Check.INDEX);
        Check.same("join: faces(), points()", () -> mesh.faces() + " " + mesh.points(), "5 8");
        Check.same("join: the HALVES", () -> mesh.faceOf(0, 1) + " " + mesh.faceOf(1, 0) + " " + mesh.faceOf(3, 2), "-1 -1 2");
        QuarryMesh other = Shapes.box();
        Check.same("join: the other way round", () -> other.join(1, 0), 0);
        Check.same("join: its RING", () -> Check.ring(other, 0), "0 3 2 1 5 4");
        QuarryMesh triangles = Shapes.twoTriangles();
        Check.same("join: two of three", () -> triangles.join(0, 1), 0);
        Check.same("join: its RING", () -> Check.ring(triangles, 0), "1 2 0 3");
        Check.same("join: holes(), edges()", () -> triangles.holes() + " " + triangles.edges(), "1 4");
    }

    private static void promise11Collapse() {
        QuarryMesh mesh = Shapes.box();
        Check.same("collapse: no FACE is GONE", () -> mesh.collapse(0, 1), 0);
        Check.same("collapse: with both", () -> Check.ring(mesh, 0), "0 3 2");
        Check.same("collapse: with both", () -> Check.ring(mesh, 2), "0 5 4");
        Check.same("collapse: with b alone", () -> Check.ring(mesh, 3), "0 2 6 5");
        Check.same("collapse: without b", () -> Check.ring(mesh, 5), "3 0 4 7");
        Check.same("collapse: b is GONE", () -> mesh.at(1, 0), Check.INDEX);
        Check.same("collapse: a stays where it is", () -> Check.place(mesh, 0), "0 0 0");
        Check.same("collapse: FACES of two POINTS are GONE", () -> mesh.collapse(2, 0), 1);
        Check.same("collapse: that one", () -> mesh.size(0), Check.INDEX);
        Check.same("collapse: another", () -> Check.ring(mesh, 3), "2 6 5");
        Check.same("collapse: another", () -> Check.ring(mesh, 2), "2 5 4");
        Check.same("collapse: another", () -> Check.ring(mesh, 5), "3 2 4 7");
        Check.same("collapse: holes(), faces()", () -> mesh.holes() + " " + mesh.faces(), "0 5");
        QuarryMesh tetrahedron = Shapes.tetrahedron();
        Check.same("collapse: two FACES are GONE", () -> tetrahedron.collapse(3, 0), 2);
        Check.same("collapse: two are left", tetrahedron::faces, 2);
        QuarryMesh lone = Shapes.twoTriangles();
        Check.same("collapse: 2 to 0", () -> lone.collapse(0, 2), 1);
        Check.same("collapse: an OPEN HALF too", () -> lone.collapse(1, 3), Check.STATE);
        Check.same("collapse: POINTS in no FACE stay", lone::points, 3);
    }

    private static void promise11CollapseOtherRings() {
        QuarryMesh apart = Shapes.points(5);
        apart.face(0, 1, 2, 3);
        apart.face(0, 2, 4, -1);
        Check.same("collapse: not beside each other in a RING", () -> apart.collapse(0, 2), 1);
        Check.same("collapse: b goes wherever it is", () -> Check.ring(apart, 0), "0 1 3");
        Check.same("collapse: the POINT of no FACE stays", () -> apart.around(4, 1), 0);
        QuarryMesh handed = Shapes.points(4);
        handed.face(0, 2, 1, -1);
        handed.face(0, 1, 2, 3);
        Check.same("collapse: a HALF of a FACE that goes is another one's then", () -> handed.collapse(0, 1), 1);
        Check.same("collapse: its RING", () -> Check.ring(handed, 1), "0 2 3");
        Check.same("collapse: its HALVES", () -> handed.faceOf(0, 2) + " " + handed.faceOf(2, 3) + " " + handed.faceOf(3, 0), "1 1 1");
        QuarryMesh stays = Shapes.points(4);
        stays.face(0, 1, 2, 3);
        stays.face(0, 2, 1, -1);
        Check.same("collapse: the same, the other number first", () -> stays.collapse(0, 1), 1);
        Check.same("collapse: its HALVES", () -> stays.faceOf(0, 2) + " " + stays.faceOf(2, 3) + " " + stays.faceOf(3, 0), "0 0 0");
    }

    private static void promise12Flip() {
        QuarryMesh mesh = Shapes.twoTriangles();
        Check.same("flip: 1000 * c + d", () -> mesh.flip(0, 1), 2003);
        Check.same("flip: the first FACE", () -> Check.ring(mesh, 0), "2 3 1");
        Check.same("flip: the second FACE", () -> Check.ring(mesh, 1), "3 2 0");
        Check.same("flip: the EDGE", () -> mesh.faceOf(2, 3) + " " + mesh.faceOf(3, 2) + " " + mesh.faceOf(0, 1), "0 1 -1");
        Check.same("flip: the others' HALVES", () -> mesh.faceOf(1, 2) + " " + mesh.faceOf(0, 3) + " "
                + mesh.faceOf(3, 1) + " " + mesh.faceOf(2, 0), "0 1 0 1");
        Check.same("flip: back, the other way round", () -> mesh.flip(3, 2), 1);
        Check.same("flip: the first FACE", () -> Check.ring(mesh, 1), "0 1 2");
        Check.same("flip: the second FACE", () -> Check.ring(mesh, 0), "1 0 3");
        QuarryMesh other = Shapes.twoTriangles();
        Check.same("flip: the other way round", () -> other.flip(1, 0), 3002);
        Check.same("flip: the first FACE", () -> Check.ring(other, 1), "3 2 0");
        Check.same("flip: the second FACE", () -> Check.ring(other, 0), "2 3 1");
    }

    private static void promise13Draw() {
        QuarryMesh mesh = Shapes.triangle();
        Check.same("draw: the first new POINT", () -> mesh.draw(0, 1, -2, 5), 3);
        Check.same("draw: the places", () -> Check.place(mesh, 3) + ", " + Check.place(mesh, 4) + ", "
                + Check.place(mesh, 5), "1 -2 5, 5 -2 5, 1 2 5");
        Check.same("draw: its own RING", () -> Check.ring(mesh, 0), "3 4 5");
        Check.same("draw: a side", () -> Check.ring(mesh, 1), "0 1 4 3");
        Check.same("draw: a side", () -> Check.ring(mesh, 2), "1 2 5 4");
        Check.same("draw: a side", () -> Check.ring(mesh, 3), "2 0 3 5");
        Check.same("draw: holes(), faces()", () -> mesh.holes() + " " + mesh.faces(), "1 4");
        Check.same("draw: the HALVES", () -> mesh.faceOf(0, 1) + " " + mesh.faceOf(3, 4) + " " + mesh.faceOf(4, 3), "1 0 1");
        QuarryMesh box = Shapes.box();
        Check.same("draw: by nothing", () -> box.draw(5, 0, 0, 0), 8);
        Check.same("draw: its own RING", () -> Check.ring(box, 5), "8 9 10 11");
        Check.same("draw: a side", () -> Check.ring(box, 6), "3 0 9 8");
        Check.same("draw: the last side", () -> Check.ring(box, 9), "7 3 8 11");
        Check.same("draw: holes()", box::holes, 0);
        QuarryMesh far = Shapes.triangle();
        Check.same("draw: up to 500", () -> far.draw(0, 496, -500, 500), 3);
    }

    private static void promise14Fill() {
        QuarryMesh mesh = Shapes.box();
        mesh.dropFace(1);
        Check.same("fill: the new FACE", () -> mesh.fill(6, 7), 6);
        Check.same("fill: from a on", () -> Check.ring(mesh, 6), "6 7 4 5");
        Check.same("fill: holes(), volume()", () -> mesh.holes() + " " + mesh.volume(), "0 48");
        QuarryMesh triangle = Shapes.triangle();
        Check.same("fill: around a FACE", () -> triangle.fill(0, 2), 1);
        Check.same("fill: its RING", () -> Check.ring(triangle, 1), "0 2 1");
        QuarryMesh tie = Shapes.bowTie();
        Check.same("fill: one of two at a POINT", () -> tie.fill(0, 4), 2);
        Check.same("fill: its RING", () -> Check.ring(tie, 2), "0 4 3");
        Check.same("fill: the other one is there", tie::holes, 1);
        QuarryMesh twelve = Shapes.polygon(12);
        Check.same("fill: 12 POINTS", () -> twelve.fill(0, 11), 1);
        Check.same("fill: its RING", () -> Check.ring(twelve, 1), "0 11 10 9 8 7 6 5 4 3 2 1");
    }

    private static void promise15Quarters() {
        QuarryMesh mesh = Shapes.triangle();
        mesh.move(0, -1, -3, -7);
        Check.same("quarters: how many FACES", mesh::quarters, 3);
        Check.same("quarters: the middle of 0 and 1", () -> Check.place(mesh, 3), "1 -1 -3");
        Check.same("quarters: the middle of 0 and 2", () -> Check.place(mesh, 4), "0 0 -3");
        Check.same("quarters: the middle of 1 and 2", () -> Check.place(mesh, 5), "2 2 0");
        Check.same("quarters: the middle of the FACE", () -> Check.place(mesh, 6), "1 0 -2");
        Check.same("quarters: the old FACE", () -> mesh.size(0), Check.INDEX);
        Check.same("quarters: at 0", () -> Check.ring(mesh, 1), "0 3 6 4");
        Check.same("quarters: at 1", () -> Check.ring(mesh, 2), "1 5 6 3");
        Check.same("quarters: at 2", () -> Check.ring(mesh, 3), "2 4 6 5");
        QuarryMesh box = new QuarryMesh();
        box.box(-8, -8, -8, 16);
        Check.same("quarters: of a box", box::quarters, 24);
        Check.same("quarters: the first EDGE, 0 to 1", () -> Check.place(box, 8), "0 -8 -8");
        Check.same("quarters: the last EDGE, 6 to 7", () -> Check.place(box, 19), "0 8 8");
        Check.same("quarters: the last FACE", () -> Check.place(box, 25), "-8 0 0");
        Check.same("quarters: the first one", () -> Check.ring(box, 6), "0 9 20 8");
        Check.same("quarters: the last one", () -> Check.ring(box, 29), "7 15 25 17");
        Check.same("quarters: volume(), holes()", () -> box.volume() + " " + box.holes(), "24576 0");
        QuarryMesh none = Shapes.points(2);
        Check.same("quarters: without FACES", none::quarters, 0);
        Check.same("quarters: without FACES", none::points, 2);
    }

    private static void promise16Smooth() {
        QuarryMesh mesh = Shapes.tetrahedron();
        int lone = mesh.point(77, 78, 79);
        Check.same("smooth: how many are elsewhere", mesh::smooth, 4);
        String[] places = {"2 2 2", "0 2 2", "2 0 2", "2 2 0"};
        for (int i = 0; i < 4; i++) {
            int p = i;
            Check.same("smooth: from the places ahead of it", () -> Check.place(mesh, p), places[i]);
        }
        Check.same("smooth: without NEIGHBOURS", () -> Check.place(mesh, lone), "77 78 79");
        QuarryMesh cut = Shapes.tetrahedron();
        cut.move(0, -4, -5, 1);
        cut.move(1, -4, 0, -1);
        cut.move(2, 0, 0, -1);
        cut.smooth();
        Check.same("smooth: cut towards 0", () -> Check.place(cut, 3), "-2 -1 0");
        QuarryMesh one = Shapes.tetrahedron();
        for (int p = 0; p < 4; p++) {
            one.move(p, 5, 5, 5);
        }
        Check.same("smooth: all where they were", one::smooth, 0);
        one.move(3, 5, 5, 6);
        Check.same("smooth: one back, the others not elsewhere", one::smooth, 1);
        one.move(3, 5, 6, 5);
        Check.same("smooth: elsewhere by y alone", one::smooth, 1);
        one.move(3, 6, 5, 5);
        Check.same("smooth: elsewhere by x alone", one::smooth, 1);
    }

    private static void promise16SmoothOpen() {
        QuarryMesh mesh = new QuarryMesh();
        mesh.box(0, 0, 0, 8);
        mesh.dropFace(1);
        int top = mesh.point(9, 1, -100);
        for (int i = 0; i < 4; i++) {
            mesh.face(4 + i, 4 + (i + 1) % 4, top, -1);
        }
        mesh.dropFace(0);
        Check.same("smooth: those at no OPEN HALF", mesh::smooth, 5);
        Check.same("smooth: at an OPEN HALF", () -> Check.place(mesh, 0) + ", " + Check.place(mesh, 2), "0 0 0, 8 8 0");
        Check.same("smooth: its NEIGHBOURS", () -> Check.place(mesh, top), "4 4 8");
        Check.same("smooth: NEIGHBOURS that stay count", () -> Check.place(mesh, 4), "4 2 -21");
        QuarryMesh flat = Shapes.twoTriangles();
        Check.same("smooth: all are at OPEN HALVES", flat::smooth, 0);
        Check.same("smooth: nothing at all", () -> new QuarryMesh().smooth(), 0);
    }

    private static void promise17Turn() {
        QuarryMesh mesh = Shapes.box();
        mesh.cut(1, 4, 6);
        mesh.dropFace(4);
        Check.same("turn: how many FACES", mesh::turn, 6);
        Check.same("turn: from the first POINT on backwards", () -> Check.ring(mesh, 0), "0 1 2 3");
        Check.same("turn: from the first POINT on backwards", () -> Check.ring(mesh, 6), "6 4 7");
        Check.same("turn: a GONE one", () -> mesh.size(4), Check.INDEX);
        Check.same("turn: the HALVES", () -> mesh.faceOf(0, 1) + " " + mesh.faceOf(1, 0) + " " + mesh.faceOf(2, 3)
                + " " + mesh.faceOf(3, 2), "0 2 0 -1");
        Check.same("turn: back", mesh::turn, 6);
        Check.same("turn: back", () -> Check.ring(mesh, 0) + ", " + Check.ring(mesh, 6), "0 3 2 1, 6 7 4");
        Check.same("turn: nothing", () -> new QuarryMesh().turn(), 0);
    }
}
