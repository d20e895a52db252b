/** Compares answers with those that are due, and ends a test with exit code 1 if one is not. */
final class Check {
    /** A call of the program. */
    interface Call {
        double answer();
    }

    private static int wrong = 0;
    private static int checks = 0;

    private Check() {
    }

    /** The call has to give this answer. */
    static void due(String name, double want, Call call) {
        checks++;
        try {
            double got = call.answer();
            if (got != want) {
                fail(name + " answered " + got + ", due is " + want);
            }
        } catch (RuntimeException e) {
            fail(name + " threw " + e + ", due is " + want);
        }
    }

    /** The call has to throw just this exception. */
    static void refuses(String name, Class<? extends RuntimeException> want, Call call) {
        checks++;
        try {
            fail(name + " answered " + call.answer() + ", due is " + want.getSimpleName());
        } catch (RuntimeException e) {
            if (e.getClass() != want) {
                fail(name + " threw " + e + ", due is " + want.getSimpleName());
            }
        }
    }

    static void holds(String name, boolean holds) {
        checks++;
        if (!holds) {
            fail(name);
        }
    }

    static void fail(String what) {
        wrong++;
        if (wrong <= 50) {
            System.out.println(what);
        }
    }

    /** Appends the signs of a text to the buffer. */
    static void type(OreRailway railway, String text) {
        for (int i = 0; i < text.length(); i++) {
            railway.append(text.charAt(i));
        }
    }

    static void end() {
        System.out.println(checks + " checks, " + wrong + " wrong");
        if (wrong != 0) {
            System.exit(1);
        }
    }
}
