/** Calls the program by a method's name; the answer, or the exception's name, as a text. */
final class Caller {
    /** The methods that change something, then those that do not. */
    static final String[] NAMES = {"grade", "spring", "car", "load", "release", "brake", "pull",
        "set", "run", "append", "clearBuffer", "execute", "undo", "keep", "goBack",
        "firstError", "section", "carOf", "cars", "rolling", "count", "refusal", "ifAlone",
        "leastBrake", "ifRun", "meanSpeed"};
    /** The index of the first name of a method that changes nothing. */
    static final int FIRST_QUERY = 15;

    private Caller() {
    }

    static String call(OreRailway x, String name, int a, int b, int c) {
        try {
            if (name.equals("meanSpeed")) {
                return "" + x.meanSpeed();
            }
            return "" + answer(x, name, a, b, c);
        } catch (RuntimeException e) {
            // A machine's own exception shows by its class, or by where it was thrown.
            String thrower = e.getStackTrace()[0].getMethodName();
            return e.getClass().getSimpleName() + (thrower.startsWith("require") ? "" : " by itself");
        }
    }

    private static int answer(OreRailway x, String name, int a, int b, int c) {
        switch (name) {
            case "grade": return x.grade(a, b);
            case "spring": return x.spring(a, b);
            case "car": return x.car();
            case "load": return x.load(a, b);
            case "release": return x.release(a, b);
            case "brake": return x.brake(a, b);
            case "pull": return x.pull(a);
            case "set": return x.set(a, b);
            case "run": return x.run(a);
            case "append": return x.append(a);
            case "clearBuffer": return x.clearBuffer();
            case "firstError": return x.firstError();
            case "execute": return x.execute();
            case "undo": return x.undo();
            case "keep": return x.keep(a);
            case "goBack": return x.goBack(a);
            case "section": return x.section(a, b);
            case "carOf": return x.carOf(a, b);
            case "cars": return x.cars(a);
            case "rolling": return x.rolling(a);
            case "count": return x.count(a);
            case "refusal": return x.refusal(a, b != 0);
            case "ifAlone": return x.ifAlone(a, b, c);
            case "leastBrake": return x.leastBrake(a);
            case "ifRun": return x.ifRun(a, b);
            default: throw new AssertionError(name);
        }
    }
}
