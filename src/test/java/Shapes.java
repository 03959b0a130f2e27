/** Meshes that several tests start from. */
final class Shapes {
    private Shapes() {
    }

    /** POINTS 0 to n - 1, no three of which are in one line. */
    static QuarryMesh points(int n) {
        QuarryMesh mesh = new QuarryMesh();
        for (int i = 0; i < n; i++) {
            mesh.point(i, i * i % 97, i % 7);
        }
        return mesh;
    }

    /** (0, 0, 0), (4, 0, 0), (0, 4, 0) and one FACE. */
    static QuarryMesh triangle() {
        QuarryMesh mesh = new QuarryMesh();
        mesh.point(0, 0, 0);
        mesh.point(4, 0, 0);
        mesh.point(0, 4, 0);
        mesh.face(0, 1, 2, -1);
        return mesh;
    }

    /** FACES 0 1 2 and 1 0 3. */
    static QuarryMesh twoTriangles() {
        QuarryMesh mesh = triangle();
        mesh.point(4, -4, 0);
        mesh.face(1, 0, 3, -1);
        return mesh;
    }

    /** FACES 0 1 2 and 2 1 0. */
    static QuarryMesh twoSides() {
        QuarryMesh mesh = triangle();
        mesh.face(2, 1, 0, -1);
        return mesh;
    }

    /** FACES 0 1 2 and 0 3 4, which have the POINT 0 in common, but no EDGE. */
    static QuarryMesh bowTie() {
        QuarryMesh mesh = points(5);
        mesh.face(0, 1, 2, -1);
        mesh.face(0, 3, 4, -1);
        return mesh;
    }

    /** FACES 0 1 2, 2 1 3, 2 3 4 and 4 3 0: one SHELL with two FANS at 0, and one HOLE that has 0 twice. */
    static QuarryMesh pinched() {
        QuarryMesh mesh = points(5);
        mesh.face(0, 1, 2, -1);
        mesh.face(2, 1, 3, -1);
        mesh.face(2, 3, 4, -1);
        mesh.face(4, 3, 0, -1);
        return mesh;
    }

    /** FACES 0 2 1, 0 1 3, 1 2 3 and 0 3 2 of (0, 0, 0), (6, 0, 0), (0, 6, 0) and (0, 0, 6). */
    static QuarryMesh tetrahedron() {
        QuarryMesh mesh = new QuarryMesh();
        mesh.point(0, 0, 0);
        mesh.point(6, 0, 0);
        mesh.point(0, 6, 0);
        mesh.point(0, 0, 6);
        mesh.face(0, 2, 1, -1);
        mesh.face(0, 1, 3, -1);
        mesh.face(1, 2, 3, -1);
        mesh.face(0, 3, 2, -1);
        return mesh;
    }

    /** FACES 0 1 4, 1 2 3 and 2 1 0 3: 1 can't be COLLAPSED to 3, but 3 to 1 can. */
    static QuarryMesh oneWay() {
        QuarryMesh mesh = points(5);
        mesh.face(0, 1, 4, -1);
        mesh.face(1, 2, 3, -1);
        mesh.face(2, 1, 0, 3);
        return mesh;
    }

    /** FACES 0 1 2 and 3 4 5 6, which have nothing in common. */
    static QuarryMesh triangleAndSquare() {
        QuarryMesh mesh = points(7);
        mesh.face(0, 1, 2, -1);
        mesh.face(3, 4, 5, 6);
        return mesh;
    }

    /** The box of (0, 0, 0) and 2. */
    static QuarryMesh box() {
        QuarryMesh mesh = new QuarryMesh();
        mesh.box(0, 0, 0, 2);
        return mesh;
    }

    /** One FACE of n POINTS, 3 to 12: a triangle with its last EDGE SPLIT again and again. */
    static QuarryMesh polygon(int n) {
        QuarryMesh mesh = triangle();
        for (int i = 3; i < n; i++) {
            mesh.split(i - 1, 0);
        }
        return mesh;
    }

    /** Two FACES with one EDGE, 0 to 1, in common, with so many POINTS. */
    static QuarryMesh ringsOf(int one, int two) {
        QuarryMesh mesh = twoTriangles();
        for (int i = 3, last = 2; i < one; i++) {
            last = mesh.split(last, 0);
        }
        for (int i = 3, last = 3; i < two; i++) {
            last = mesh.split(last, 1);
        }
        return mesh;
    }

    /** FACES 0 1 2, 0 2 3 and so on: so many round the POINT 0, with a gap between the last one and the first. */
    static QuarryMesh fan(int n) {
        QuarryMesh mesh = points(n + 2);
        for (int i = 1; i <= n; i++) {
            mesh.face(0, i, i + 1, -1);
        }
        return mesh;
    }

    /** The same without a gap: the last FACE goes back to the POINT 1. */
    static QuarryMesh closedFan(int n) {
        QuarryMesh mesh = points(n + 1);
        for (int i = 1; i <= n; i++) {
            mesh.face(0, i, i % n + 1, -1);
        }
        return mesh;
    }

    /** FACES 0 1 2, 2 3 4, 4 5 6 and so on: each has just a POINT in common with the next one. */
    static QuarryMesh chain(int n) {
        QuarryMesh mesh = points(2 * n + 1);
        for (int i = 0; i < n; i++) {
            mesh.face(2 * i, 2 * i + 1, 2 * i + 2, -1);
        }
        return mesh;
    }

    /**
     * 97 POINTS and up to 90 FACES of four in a row, with one HOLE of 2 * n + 2 HALVES that has POINTS twice:
     * one side goes on by 1, the other one by 2, so that no two FACES but the next ones have an EDGE in common.
     */
    static QuarryMesh strip(int n) {
        QuarryMesh mesh = points(97);
        for (int i = 0; i < n; i++) {
            mesh.face(i, i + 1, (2 * i + 5) % 97, (2 * i + 3) % 97);
        }
        return mesh;
    }

    /** 97 POINTS and 160 FACES of three, none GONE, no two of which have an EDGE in common. */
    static QuarryMesh crowded() {
        QuarryMesh mesh = points(97);
        for (int i = 0; i < 97; i++) {
            mesh.face(i, (i + 1) % 97, (i + 4) % 97, -1);
        }
        for (int i = 0; i < 63; i++) {
            mesh.face(i, (i + 2) % 97, (i + 7) % 97, -1);
        }
        return mesh;
    }

    /** The mesh, without these FACES. */
    static QuarryMesh without(QuarryMesh mesh, int... faces) {
        for (int f : faces) {
            mesh.dropFace(f);
        }
        return mesh;
    }

    /** The mesh, with so many POINTS ever. */
    static QuarryMesh pointsUsed(QuarryMesh mesh, int ever) {
        usePoints(mesh, ever);
        return mesh;
    }

    /** The mesh, with three more POINTS and so many FACES ever. */
    static QuarryMesh facesUsed(QuarryMesh mesh, int ever) {
        useFaces(mesh, ever);
        return mesh;
    }

    /** Lays POINTS until there were so many. */
    static void usePoints(QuarryMesh mesh, int ever) {
        int p = mesh.point(0, 0, 0);
        while (p < ever - 1) {
            p = mesh.point(0, 0, 0);
        }
    }

    /** Lays FACES on three new POINTS and takes them away, until there were so many. */
    static void useFaces(QuarryMesh mesh, int ever) {
        int a = mesh.point(0, 0, 0);
        int b = mesh.point(0, 0, 1);
        int c = mesh.point(0, 1, 0);
        int f = -1;
        while (f < ever - 1) {
            f = mesh.face(a, b, c, -1);
            mesh.dropFace(f);
        }
    }
}
