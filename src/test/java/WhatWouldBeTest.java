/** Promises 33 to 36. */
public final class WhatWouldBeTest {
    public static void main(String[] args) {
        promise33May();
        promise33MayAgainstTheSteps();
        promise34VolumeWith();
        promise34VolumeWithRefused();
        promise35HolesWithout();
        promise36Digest();
        promise36DigestTellsStatesApart();
        Check.end();
    }

    private static String may(QuarryMesh mesh) {
        String ahead = Check.picture(mesh);
        String all = mesh.may(0) + " " + mesh.may(1) + " " + mesh.may(2);
        Check.same("may: nothing changed", () -> Check.picture(mesh), ahead);
        return all;
    }

    private static void promise33May() {
        Check.same("may: nothing", () -> may(new QuarryMesh()), "0 0 0");
        Check.same("may: no FACE would be left", () -> may(Shapes.triangle()), "0 0 0");
        Check.same("may: two FACES", () -> may(Shapes.twoTriangles()), "8 2 2");
        Check.same("may: two sides", () -> may(Shapes.twoSides()), "0 0 0");
        Check.same("may: a box", () -> may(Shapes.box()), "24 0 24");
        Check.same("may: a tetrahedron", () -> may(Shapes.tetrahedron()), "12 0 12");
        QuarryMesh mesh = Shapes.box();
        Check.refused("may: what", mesh, Check.ARGUMENT, () -> mesh.may(-1), () -> mesh.may(3),
                () -> mesh.may(Integer.MIN_VALUE), () -> mesh.may(Integer.MAX_VALUE));
    }

    /** Tries all pairs on new meshes. */
    private static void promise33MayAgainstTheSteps() {
        int[] done = new int[3];
        for (int a = 0; a < 8; a++) {
            for (int b = 0; b < 8; b++) {
                int from = a;
                int to = b;
                done[0] += isDone(() -> mixed().collapse(from, to));
                done[1] += isDone(() -> mixed().flip(from, to));
                done[2] += isDone(() -> mixed().join(from, to));
            }
        }
        Check.same("may: as the steps", () -> may(mixed()), done[0] + " " + done[1] + " " + done[2]);
        Check.same("may: FLIPS there", () -> done[1], 10);
    }

    private static int isDone(Check.Call call) {
        return Check.answer(call).startsWith("throws") ? 0 : 1;
    }

    private static QuarryMesh mixed() {
        QuarryMesh mesh = Shapes.box();
        mesh.cut(1, 4, 6);
        mesh.cut(0, 1, 3);
        mesh.cut(3, 2, 5);
        mesh.dropFace(5);
        return mesh;
    }

    private static void promise34VolumeWith() {
        QuarryMesh mesh = Shapes.box();
        String ahead = Check.picture(mesh);
        Check.same("volumeWith: 1 to 0", () -> mesh.volumeWith(0, 1), 32);
        Check.same("volumeWith: nothing changed", () -> Check.picture(mesh) + mesh.digest(),
                ahead + Shapes.box().digest());
        for (int a = 0; a < 8; a++) {
            for (int b = 0; b < 8; b++) {
                int from = a;
                int to = b;
                QuarryMesh done = mixed();
                String answer = Check.answer(() -> done.collapse(from, to));
                Check.same("volumeWith: as behind the step, " + a + " " + b, () -> mixed().volumeWith(from, to),
                        answer.startsWith("throws") ? answer : done.volume());
            }
        }
    }

    private static void promise34VolumeWithRefused() {
        QuarryMesh mesh = Shapes.twoTriangles();
        for (int p : new int[] {-1, 4, 99, 100, Integer.MIN_VALUE, Integer.MAX_VALUE}) {
            Check.refused("volumeWith: no POINT " + p, mesh, Check.INDEX,
                    () -> mesh.volumeWith(p, 0), () -> mesh.volumeWith(0, p), () -> mesh.volumeWith(p, p));
        }
        Check.refused("volumeWith: no NEIGHBOURS", mesh, Check.ARGUMENT,
                () -> mesh.volumeWith(2, 3), () -> mesh.volumeWith(0, 0));
        Check.refused("volumeWith: no FACE left", mesh, Check.STATE,
                () -> mesh.volumeWith(0, 1), () -> mesh.volumeWith(1, 0));
        QuarryMesh twice = Shapes.points(6);
        twice.face(0, 1, 2, -1);
        twice.face(0, 3, 4, -1);
        twice.face(1, 3, 5, -1);
        Check.refused("volumeWith: a HALF in two FACES", twice, Check.STATE, () -> twice.volumeWith(0, 1));
        QuarryMesh oneWay = Shapes.oneWay();
        Check.refused("volumeWith: a HALF in two FACES that way alone", oneWay, Check.STATE,
                () -> oneWay.volumeWith(3, 1));
        QuarryMesh done = Shapes.oneWay();
        done.collapse(1, 3);
        Check.same("volumeWith: the other way", () -> oneWay.volumeWith(1, 3), done.volume());
    }

    private static void promise35HolesWithout() {
        QuarryMesh mesh = Shapes.box();
        String ahead = Check.picture(mesh);
        Check.same("holesWithout: one", () -> mesh.holesWithout(4), 1);
        Check.same("holesWithout: nothing changed", () -> Check.picture(mesh) + mesh.digest(),
                ahead + Shapes.box().digest());
        mesh.dropFace(0);
        Check.same("holesWithout: two", () -> mesh.holesWithout(1), 2);
        Check.same("holesWithout: in one", () -> mesh.holesWithout(2), 1);
        Check.same("holesWithout: of a FACE alone", () -> Shapes.triangle().holesWithout(0), 0);
        Check.same("holesWithout: of two sides", () -> Shapes.twoSides().holesWithout(0), 1);
        Check.same("holesWithout: one at a POINT", () -> Shapes.bowTie().holesWithout(1), 1);
        for (int f : new int[] {-1, 0, 6, 159, 160, Integer.MIN_VALUE, Integer.MAX_VALUE}) {
            Check.refused("holesWithout: no FACE " + f, mesh, Check.INDEX, () -> mesh.holesWithout(f));
        }
    }

    /** The promise's words, by calls of the face. */
    private static long digest(QuarryMesh mesh) {
        long d = 58071;
        for (long v : new long[] {mesh.points(), mesh.edges(), mesh.faces(), mesh.holes(), mesh.shells(), mesh.volume()}) {
            d = d * 31 + v;
        }
        for (int i = 0; i < 100; i++) {
            int p = i;
            if (isDone(() -> mesh.at(p, 0)) == 1) {
                d = d * 31 + p;
                for (int k = 0; k < 3; k++) {
                    d = d * 31 + mesh.at(p, k);
                }
                for (int k = 0; k < 4; k++) {
                    d = d * 31 + mesh.around(p, k);
                }
            }
        }
        for (int i = 0; i < 160; i++) {
            int f = i;
            if (isDone(() -> mesh.size(f)) == 1) {
                d = (d * 31 + f) * 31 + mesh.size(f);
                for (int k = 0; k < mesh.size(f); k++) {
                    d = d * 31 + mesh.corner(f, k);
                }
                for (int k = 0; k < 3; k++) {
                    d = d * 31 + mesh.normal(f, k);
                }
            }
        }
        return (d * 31 + mesh.may(1)) * 31 + mesh.may(2);
    }

    private static void promise36Digest() {
        long empty = 58071;
        for (int i = 0; i < 8; i++) {
            empty *= 31;
        }
        Check.same("digest: nothing", () -> new QuarryMesh().digest(), empty);
        QuarryMesh[] all = {Shapes.points(3), Shapes.triangle(), Shapes.twoTriangles(), Shapes.bowTie(),
            Shapes.pinched(), Shapes.tetrahedron(), Shapes.box(), mixed(), Shapes.polygon(12)};
        for (int i = 0; i < all.length; i++) {
            QuarryMesh mesh = all[i];
            Check.same("digest: of mesh " + i, mesh::digest, digest(mesh));
        }
        QuarryMesh gone = mixed();
        gone.collapse(0, 1);
        gone.point(-3, -4, -5);
        Check.same("digest: with GONE POINTS and FACES", gone::digest, digest(gone));
    }

    private static void promise36DigestTellsStatesApart() {
        QuarryMesh mesh = Shapes.box();
        long ahead = mesh.digest();
        Check.same("digest: again", mesh::digest, ahead);
        mesh.move(0, 0, 0, 1);
        Check.same("digest: moved", () -> mesh.digest() == ahead, false);
        mesh.move(0, 0, 0, 0);
        Check.same("digest: moved back", mesh::digest, ahead);
    }
}
