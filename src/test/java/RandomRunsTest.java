/**
 * Long runs of calls, drawn from a fixed row of numbers, on a QuarryMesh and on a ReferenceMesh. What is drawn
 * is looked up in the reference, so that the mesh gets just the calls that are compared: 512, and no more.
 */
public final class RandomRunsTest {
    private static final int RUNS = 160;
    private static final int CALLS = 512;
    private static final int LOOK_CALLS = 3;
    private static final int TRIES = 8;

    private final int run;
    private final QuarryMesh mesh = new QuarryMesh();
    private final ReferenceMesh reference = new ReferenceMesh();
    private long row;
    private int reach;
    private int calls;

    private RandomRunsTest(int run) {
        this.run = run;
        this.row = run * 7919L + 17;
    }

    public static void main(String[] args) {
        for (int run = 0; run < RUNS && Check.isAllRight(); run++) {
            new RandomRunsTest(run).go();
        }
        Check.end();
    }

    private int upTo(int n) {
        row = row * 6364136223846793005L + 1442695040888963407L;
        return (int) ((row >>> 33) % n);
    }

    private boolean seldom() {
        return upTo(12) == 0;
    }

    /** Mostly a POINT that has been there, now and then none. */
    private int anyPoint() {
        int known = Math.max(1, reference.points() + 3);
        return seldom() ? upTo(110) - 5 : upTo(known);
    }

    private int anyFace() {
        if (seldom()) {
            return upTo(170) - 5;
        }
        int f = upTo(160);
        for (int i = 0; i < 160; i++) {
            int face = (f + i) % 160;
            if (reference.hasFace(face)) {
                return face;
            }
        }
        return f;
    }

    /** Mostly a HALF in a FACE, or the same EDGE the other way round. */
    private int[] anyPair() {
        int f = anyFace();
        if (seldom() || !reference.hasFace(f)) {
            return new int[] {anyPoint(), anyPoint()};
        }
        int n = reference.size(f);
        int i = upTo(n);
        int a = reference.corner(f, i);
        int b = reference.corner(f, (i + 1) % n);
        return upTo(2) == 0 ? new int[] {a, b} : new int[] {b, a};
    }

    /** Mostly an OPEN HALF, if there are some. */
    private int[] openPair() {
        int[] pair = anyPair();
        for (int i = 0; i < TRIES && !isOpen(pair); i++) {
            pair = anyPair();
        }
        return pair;
    }

    private boolean isOpen(int[] pair) {
        return reference.sizeAt(pair[0], pair[1]) == 0 && reference.sizeAt(pair[1], pair[0]) > 0;
    }

    /** Mostly a pair between two FACES of 3 POINTS, if there are some. */
    private int[] pairBetweenTriangles() {
        int[] pair = anyPair();
        for (int i = 0; i < TRIES && !isBetweenTriangles(pair); i++) {
            pair = anyPair();
        }
        return pair;
    }

    private boolean isBetweenTriangles(int[] pair) {
        return reference.sizeAt(pair[0], pair[1]) == 3 && reference.sizeAt(pair[1], pair[0]) == 3;
    }

    private int coordinate() {
        return seldom() ? upTo(1200) - 600 : upTo(2 * reach + 1) - reach;
    }

    private void same(String what, Check.Call got, Check.Call want) {
        calls++;
        String due = Check.answer(want);
        Check.same("run " + run + ", call " + calls + ": " + what, got, due);
    }

    private void go() {
        reach = new int[] {3, 50, 500}[run % 3];
        start(run % 8);
        while (calls < CALLS - LOOK_CALLS && Check.isAllRight()) {
            int kind = upTo(100);
            if (kind < 12) {
                lay();
            } else if (kind < 45) {
                step();
            } else {
                ask();
            }
            if (calls % 64 == 0) {
                look();
            }
        }
        look();
    }

    private void look() {
        same("digest()", mesh::digest, reference::digest);
        same("may(0)", () -> mesh.may(0), () -> reference.may(0));
        same("meanEdge()", mesh::meanEdge, reference::meanEdge);
    }

    /** A box of 12 FACES of 3 POINTS, two boxes, a box in QUARTERS, a strip or a fan of FACES, or POINTS alone. */
    private void start(int kind) {
        if (kind == 0 || kind == 1 || kind == 2) {
            same("box", () -> mesh.box(-2, -1, 0, 3), () -> reference.box(-2, -1, 0, 3));
        }
        for (int f = 0; kind == 0 && f < 6; f++) {
            cut(f, reference.corner(f, 0), reference.corner(f, 2));
        }
        if (kind == 1) {
            same("box", () -> mesh.box(0, 0, 0, 7), () -> reference.box(0, 0, 0, 7));
        }
        if (kind == 2) {
            same("quarters()", mesh::quarters, reference::quarters);
        }
        if (kind >= 3) {
            for (int i = 0; i < 5 + kind; i++) {
                lay(coordinate(), coordinate(), coordinate());
            }
        }
        for (int i = 0; kind >= 4 && i < 3 + kind; i++) {
            int b = 1 + i % (4 + kind);
            int c = kind % 2 == 0 ? b + 1 : 1 + (i * 3 + 2) % (4 + kind);
            layFace(kind == 5 ? i : 0, b, c, -1);
        }
    }

    private void lay(int x, int y, int z) {
        same("point(" + x + ", " + y + ", " + z + ")", () -> mesh.point(x, y, z), () -> reference.point(x, y, z));
    }

    private void layFace(int a, int b, int c, int d) {
        same("face(" + a + ", " + b + ", " + c + ", " + d + ")",
                () -> mesh.face(a, b, c, d), () -> reference.face(a, b, c, d));
    }

    private void lay() {
        int x = coordinate();
        int y = coordinate();
        int z = coordinate();
        int w = seldom() ? upTo(510) - 3 : 1 + upTo(9);
        int p = anyPoint();
        int f = anyFace();
        int[] pair = anyPair();
        int d = upTo(2) == 0 ? -1 : anyPoint();
        switch (upTo(9)) {
            case 0 -> lay(x, y, z);
            case 1 -> same("move(" + p + ", " + x + ", " + y + ", " + z + ")",
                    () -> mesh.move(p, x, y, z), () -> reference.move(p, x, y, z));
            case 2, 3 -> layFace(pair[0], pair[1], p, d);
            case 4 -> layFace(p, anyPoint(), anyPoint(), d);
            case 5, 6 -> same("dropFace(" + f + ")", () -> mesh.dropFace(f), () -> reference.dropFace(f));
            case 7 -> same("dropPoint(" + p + ")", () -> mesh.dropPoint(p), () -> reference.dropPoint(p));
            default -> {
                if (upTo(4) == 0) {
                    same("box(" + x + ", " + y + ", " + z + ", " + w + ")",
                            () -> mesh.box(x, y, z, w), () -> reference.box(x, y, z, w));
                }
            }
        }
    }

    private void step() {
        int[] pair = anyPair();
        int a = pair[0];
        int b = pair[1];
        String ab = "(" + a + ", " + b + ")";
        int f = anyFace();
        int dx = upTo(7) - 3;
        int dy = seldom() ? Integer.MAX_VALUE - upTo(2000) : upTo(7) - 3;
        int dz = seldom() ? Integer.MIN_VALUE + upTo(2000) : upTo(7) - 3;
        switch (upTo(22)) {
            case 0, 1 -> same("split" + ab, () -> mesh.split(a, b), () -> reference.split(a, b));
            case 2, 3, 4, 5 -> cutAcross(f, upTo(12), a, b);
            case 6, 7 -> same("join" + ab, () -> mesh.join(a, b), () -> reference.join(a, b));
            case 8 -> same("collapse" + ab, () -> mesh.collapse(a, b), () -> reference.collapse(a, b));
            case 9, 10, 11, 12, 13 -> flip(pairBetweenTriangles());
            case 14 -> {
                if (upTo(3) == 0) {
                    same("draw(" + f + ", " + dx + ", " + dy + ", " + dz + ")",
                            () -> mesh.draw(f, dx, dy, dz), () -> reference.draw(f, dx, dy, dz));
                }
            }
            case 15, 16, 17 -> fill(openPair());
            case 18 -> {
                if (upTo(6) == 0) {
                    same("quarters()", mesh::quarters, reference::quarters);
                }
            }
            case 19 -> same("smooth()", mesh::smooth, reference::smooth);
            case 20 -> same("turn()", mesh::turn, reference::turn);
            default -> cut(f, a, b);
        }
    }

    /** Mostly from one POINT of the RING to one that is not beside it; from a to b in a FACE that has no such two. */
    private void cutAcross(int f, int place, int a, int b) {
        int n = reference.hasFace(f) ? reference.size(f) : 0;
        if (n <= 3) {
            cut(f, a, b);
            return;
        }
        int behind = seldom() ? upTo(n) : 2 + upTo(n - 3);
        cut(f, reference.corner(f, place % n), reference.corner(f, (place + behind) % n));
    }

    private void cut(int f, int a, int b) {
        same("cut(" + f + ", " + a + ", " + b + ")", () -> mesh.cut(f, a, b), () -> reference.cut(f, a, b));
    }

    private void flip(int[] pair) {
        same("flip(" + pair[0] + ", " + pair[1] + ")",
                () -> mesh.flip(pair[0], pair[1]), () -> reference.flip(pair[0], pair[1]));
    }

    private void fill(int[] pair) {
        same("fill(" + pair[0] + ", " + pair[1] + ")",
                () -> mesh.fill(pair[0], pair[1]), () -> reference.fill(pair[0], pair[1]));
    }

    private void ask() {
        int[] pair = anyPair();
        int a = pair[0];
        int b = pair[1];
        String ab = "(" + a + ", " + b + ")";
        int p = anyPoint();
        int f = anyFace();
        int what = upTo(6) - 1;
        switch (upTo(16)) {
            case 0 -> same("points()", mesh::points, reference::points);
            case 1 -> same("edges()", mesh::edges, reference::edges);
            case 2 -> same("faces()", mesh::faces, reference::faces);
            case 3 -> same("holes()", mesh::holes, reference::holes);
            case 4 -> same("shells()", mesh::shells, reference::shells);
            case 5 -> same("at(" + p + ", " + what + ")", () -> mesh.at(p, what), () -> reference.at(p, what));
            case 6 -> same("size(" + f + ")", () -> mesh.size(f), () -> reference.size(f));
            case 7 -> same("corner(" + f + ", " + what + ")",
                    () -> mesh.corner(f, what), () -> reference.corner(f, what));
            case 8 -> same("faceOf" + ab, () -> mesh.faceOf(a, b), () -> reference.faceOf(a, b));
            case 9 -> same("hole" + ab, () -> mesh.hole(a, b), () -> reference.hole(a, b));
            case 10 -> same("around(" + p + ", " + what + ")",
                    () -> mesh.around(p, what), () -> reference.around(p, what));
            case 11 -> same("normal(" + f + ", " + what + ")",
                    () -> mesh.normal(f, what), () -> reference.normal(f, what));
            case 12 -> same("volume()", mesh::volume, reference::volume);
            case 13 -> same("steps(" + a + ", " + p + ")", () -> mesh.steps(a, p), () -> reference.steps(a, p));
            case 14 -> same("volumeWith" + ab, () -> mesh.volumeWith(a, b), () -> reference.volumeWith(a, b));
            default -> same("holesWithout(" + f + ")",
                    () -> mesh.holesWithout(f), () -> reference.holesWithout(f));
        }
    }
}
