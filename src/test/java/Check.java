/** Compares answers, prints those that are wrong, and ends with exit code 1 if there was one. */
final class Check {
    /** A call of the mesh. */
    interface Call {
        Object run();
    }

    static final String INDEX = "throws.IndexOutOfBoundsException";
    static final String ARGUMENT = "throws.IllegalArgumentException";
    static final String STATE = "throws.IllegalStateException";

    private static int asked = 0;
    private static int wrong = 0;

    private Check() {
    }

    /** The answer as text; an exception by its exact class, so that no kind of it passes for another. */
    static String answer(Call call) {
        try {
            return String.valueOf(call.run());
        } catch (RuntimeException e) {
            return "throws." + e.getClass().getSimpleName();
        }
    }

    static void same(String what, Call call, Object want) {
        asked++;
        String got = answer(call);
        if (!got.equals(String.valueOf(want))) {
            wrong++;
            System.out.println(what + ": answered " + got + ", due is " + want);
        }
    }

    static boolean isAllRight() {
        return wrong == 0;
    }

    static void end() {
        System.out.println("  " + asked + " answers, " + wrong + " wrong");
        if (wrong != 0 || asked == 0) {
            System.exit(1);
        }
    }

    /** The RING of a FACE as text: "0 3 2 1". */
    static String ring(QuarryMesh mesh, int face) {
        StringBuilder text = new StringBuilder();
        for (int i = 0; i < mesh.size(face); i++) {
            text.append(i == 0 ? "" : " ").append(mesh.corner(face, i));
        }
        return text.toString();
    }

    /** x, y and z of a POINT as text: "1 2 3". */
    static String place(QuarryMesh mesh, int point) {
        return mesh.at(point, 0) + " " + mesh.at(point, 1) + " " + mesh.at(point, 2);
    }
}
