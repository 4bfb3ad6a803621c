/** Counts and prints the answers that are not the ones that are due. */
final class Check {
    private static int wrong = 0;
    private static String name = "";

    private Check() {
    }

    /** What all complaints from here on are about. */
    static void under(String newName) {
        name = newName + ": ";
    }

    static void due(String what, long want, long got) {
        if (want != got) {
            complain(what + " answered " + got + ", due is " + want);
        }
    }

    static void due(String what, boolean want, boolean got) {
        if (want != got) {
            complain(what + " answered " + got + ", due is " + want);
        }
    }

    static void due(String what, String want, String got) {
        if (!want.equals(got)) {
            complain(what + " answered " + got + ", due is " + want);
        }
    }

    static void bits(String what, float want, int got) {
        due(what, Float.floatToIntBits(want), got);
    }

    static void floats(String what, float want, float got) {
        due(what, Float.floatToIntBits(want), Float.floatToIntBits(got));
    }

    static void raises(String what, Class<?> want, Runnable call) {
        try {
            call.run();
            complain(what + " threw nothing, due is " + want.getName());
        } catch (RuntimeException e) {
            if (e.getClass() != want) {
                complain(what + " threw " + e + ", due is " + want.getName());
            }
        }
    }

    static void complain(String text) {
        wrong++;
        if (wrong <= 50) {
            System.out.println(name + text);
        }
    }

    static void end() {
        System.out.println(wrong == 0 ? "all answers are as due" : wrong + " answers are not as due");
        if (wrong != 0) {
            System.exit(1);
        }
    }
}
