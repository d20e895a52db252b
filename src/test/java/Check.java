/** Compares answers with those that are due, and ends a test with exit code 1 if one is not. */
final class Check {
    /** A call of the program. */
    interface Call {
        double answer();
    }

    private static int wrong = 0;
    private static int checks = 0;

    private Check() {
    }

    /** The call has to give this answer. */
    static void due(String name, double want, Call call) {
        checks++;
        try {
            double got = call.answer();
            if (got != want) {
                fail(name + " answered " + got + ", due is " + want);
            }
        } catch (RuntimeException e) {
            fail(name + " threw " + e + ", due is " + want);
        }
    }

    /** The call has to throw just this exception. */
    static void refuses(String name, Class<? extends RuntimeException> want, Call call) {
        checks++;
        try {
            fail(name + " answered " + call.answer() + ", due is " + want.getSimpleName());
        } catch (RuntimeException e) {
            if (e.getClass() != want) {
                fail(name + " threw " + e + ", due is " + want.getSimpleName());
            }
        }
    }

    static void holds(String name, boolean holds) {
        checks++;
        if (!holds) {
            fail(name);
        }
    }

    static void fail(String what) {
        wrong++;
        if (wrong <= 50) {
            System.out.println(what);
        }
    }

    /** Appends the signs of a text to the buffer. */
    static void type(OreRailway railway, String text) {
        for (int i = 0; i < text.length(); i++) {
            railway.append(text.charAt(i));
        }
    }

    /** All that the queries tell, but for the buffer and the saved states. */
    static String stateOf(OreRailway railway) {
        StringBuilder all = new StringBuilder();
        for (int what = 0; what <= 13; what++) {
            if (what != 9 && what != 10) {
                all.append(railway.count(what)).append(' ');
            }
        }
        for (int section = 0; section < 30; section++) {
            for (int what = 0; what <= 4; what++) {
                all.append(railway.section(section, what)).append(' ');
            }
        }
        for (int car = 0; car < railway.count(1); car++) {
            for (int what = 0; what <= 9; what++) {
                all.append(railway.carOf(car, what)).append(' ');
            }
        }
        for (int state = 0; state <= 4; state++) {
            all.append(railway.cars(state)).append(' ');
        }
        return all.toString();
    }

    /** All that the queries tell. */
    static String everythingOf(OreRailway railway) {
        return stateOf(railway) + railway.count(9) + ' ' + railway.count(10) + ' '
                + railway.firstError();
    }

    static void end() {
        System.out.println(checks + " checks, " + wrong + " wrong");
        if (wrong != 0) {
            System.exit(1);
        }
    }
}
