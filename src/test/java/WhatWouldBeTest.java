/** Promises 33 to 36 in ordinary use; their boundary cases stand in MeasuresBoundaryTest. */
public final class WhatWouldBeTest {
    public static void main(String[] args) {
        promise33May();
        promise33MayAgainstTheSteps();
        promise34VolumeWith();
        promise35HolesWithout();
        promise36Digest();
        promise36DigestTellsStatesApart();
        Check.end();
    }

    private static String may(QuarryMesh mesh) {
        long ahead = mesh.digest();
        String all = mesh.may(0) + " " + mesh.may(1) + " " + mesh.may(2);
        Check.same("may: nothing changed", mesh::digest, ahead);
        return all;
    }

    private static void promise33May() {
        Check.same("may: nothing", () -> may(new QuarryMesh()), "0 0 0");
        Check.same("may: no FACE would be left", () -> may(Shapes.triangle()), "0 0 0");
        Check.same("may: two FACES", () -> may(Shapes.twoTriangles()), "8 2 2");
        Check.same("may: two sides", () -> may(Shapes.twoSides()), "0 0 0");
        Check.same("may: a box", () -> may(Shapes.box()), "24 0 24");
        Check.same("may: a tetrahedron", () -> may(Shapes.tetrahedron()), "12 0 12");
    }

    /** Tries all pairs on new meshes. */
    private static void promise33MayAgainstTheSteps() {
        int[] done = new int[3];
        for (int a = 0; a < 8; a++) {
            for (int b = 0; b < 8; b++) {
                int from = a;
                int to = b;
                done[0] += isDone(() -> mixed().collapse(from, to));
                done[1] += isDone(() -> mixed().flip(from, to));
                done[2] += isDone(() -> mixed().join(from, to));
            }
        }
        Check.same("may: as the steps", () -> may(mixed()), done[0] + " " + done[1] + " " + done[2]);
        Check.same("may: FLIPS there", () -> done[1], 10);
    }

    private static int isDone(Check.Call call) {
        return Check.answer(call).startsWith("throws") ? 0 : 1;
    }

    private static QuarryMesh mixed() {
        QuarryMesh mesh = Shapes.box();
        mesh.cut(1, 4, 6);
        mesh.cut(0, 1, 3);
        mesh.cut(3, 2, 5);
        mesh.dropFace(5);
        return mesh;
    }

    private static void promise34VolumeWith() {
        QuarryMesh mesh = Shapes.box();
        Check.same("volumeWith: 1 to 0", () -> mesh.volumeWith(0, 1), 32);
        Check.same("volumeWith: nothing changed", mesh::digest, Shapes.box().digest());
        for (int a = 0; a < 8; a++) {
            for (int b = 0; b < 8; b++) {
                int from = a;
                int to = b;
                QuarryMesh done = mixed();
                String answer = Check.answer(() -> done.collapse(from, to));
                Check.same("volumeWith: as behind the step, " + a + " " + b, () -> mixed().volumeWith(from, to),
                        answer.startsWith("throws") ? answer : done.volume());
            }
        }
    }

    private static void promise35HolesWithout() {
        QuarryMesh mesh = Shapes.box();
        Check.same("holesWithout: one", () -> mesh.holesWithout(4), 1);
        Check.same("holesWithout: nothing changed", mesh::digest, Shapes.box().digest());
        mesh.dropFace(0);
        Check.same("holesWithout: two", () -> mesh.holesWithout(1), 2);
        Check.same("holesWithout: in one", () -> mesh.holesWithout(2), 1);
        Check.same("holesWithout: of a FACE alone", () -> Shapes.triangle().holesWithout(0), 0);
        Check.same("holesWithout: of two sides", () -> Shapes.twoSides().holesWithout(0), 1);
        Check.same("holesWithout: one at a POINT", () -> Shapes.bowTie().holesWithout(1), 1);
    }

    /** The promise's words, by calls of the face. */
    private static long digest(QuarryMesh mesh) {
        long d = 58071;
        for (long v : new long[] {mesh.points(), mesh.edges(), mesh.faces(), mesh.holes(), mesh.shells(), mesh.volume()}) {
            d = d * 31 + v;
        }
        for (int i = 0; i < 100; i++) {
            int p = i;
            if (isDone(() -> mesh.at(p, 0)) == 1) {
                d = d * 31 + p;
                for (int k = 0; k < 3; k++) {
                    d = d * 31 + mesh.at(p, k);
                }
                for (int k = 0; k < 4; k++) {
                    d = d * 31 + mesh.around(p, k);
                }
            }
        }
        for (int i = 0; i < 160; i++) {
            int f = i;
            if (isDone(() -> mesh.size(f)) == 1) {
                d = (d * 31 + f) * 31 + mesh.size(f);
                for (int k = 0; k < mesh.size(f); k++) {
                    d = d * 31 + mesh.corner(f, k);
                }
                for (int k = 0; k < 3; k++) {
                    d = d * 31 + mesh.normal(f, k);
                }
            }
        }
        return (d * 31 + mesh.may(1)) * 31 + mesh.may(2);
    }

    private static void promise36Digest() {
        long empty = 58071;
        for (int i = 0; i < 8; i++) {
            empty *= 31;
        }
        Check.same("digest: nothing", () -> new QuarryMesh().digest(), empty);
        QuarryMesh[] all = {Shapes.points(3), Shapes.triangle(), Shapes.twoTriangles(), Shapes.bowTie(),
            Shapes.pinched(), Shapes.tetrahedron(), Shapes.box(), mixed(), Shapes.polygon(12)};
        for (int i = 0; i < all.length; i++) {
            QuarryMesh mesh = all[i];
            Check.same("digest: of mesh " + i, mesh::digest, digest(mesh));
        }
        QuarryMesh gone = mixed();
        gone.collapse(0, 1);
        gone.point(-3, -4, -5);
        Check.same("digest: with GONE POINTS and FACES", gone::digest, digest(gone));
    }

    private static void promise36DigestTellsStatesApart() {
        QuarryMesh mesh = Shapes.box();
        long ahead = mesh.digest();
        Check.same("digest: again", mesh::digest, ahead);
        mesh.move(0, 0, 0, 1);
        Check.same("digest: moved", () -> mesh.digest() == ahead, false);
        mesh.move(0, 0, 0, 0);
        Check.same("digest: moved back", mesh::digest, ahead);
    }
}
