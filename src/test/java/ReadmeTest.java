/** The example of README.md, call by call, with the answers that it tells there. */
public final class ReadmeTest {
    public static void main(String[] args) {
        QuarryMesh mesh = new QuarryMesh();
        Check.same("README: box", () -> mesh.box(0, 0, 0, 20), 0);
        Check.same("README: cut", () -> mesh.cut(1, 4, 6), 6);
        Check.same("README: flip", () -> mesh.flip(4, 6), 7005);
        Check.same("README: split", () -> mesh.split(0, 1), 8);
        Check.same("README: dropFace", () -> mesh.dropFace(3), 6);
        Check.same("README: holes", mesh::holes, 1);
        Check.same("README: hole", () -> mesh.hole(1, 2), 4);
        Check.same("README: fill", () -> mesh.fill(1, 2), 7);
        Check.same("README: volume", mesh::volume, 48000);
        Check.same("README: steps", () -> mesh.steps(8, 6), 3);
        Check.same("README: may", () -> mesh.may(1), 2);
        Check.same("README: join", () -> mesh.join(5, 7), 1);
        Check.same("README: at, no such POINT", () -> mesh.at(9, 0), Check.INDEX);
        Check.same("README: split, no EDGE", () -> mesh.split(0, 6), Check.ARGUMENT);
        Check.same("README: join, POINT 1 in common", () -> mesh.join(0, 8), Check.STATE);
        Check.end();
    }
}
