import java.util.Arrays;
import java.util.List;

/** Calls the program by a method's name; the answer, or the exception's name, as a text. */
final class Caller {
    /** The methods that change something, then those that do not. */
    static final String[] NAMES = {"grade", "spring", "car", "load", "release", "brake", "pull",
        "set", "run", "append", "clearBuffer", "execute", "undo", "keep", "goBack",
        "firstError", "section", "carOf", "cars", "rolling", "count", "refusal", "ifAlone",
        "leastBrake", "ifRun", "meanSpeed"};
    /** The index of the first name of a method that changes nothing. */
    private static final int FIRST_QUERY = 15;
    private static final List<String> NOT_UNDOABLE =
            List.of("append", "clearBuffer", "undo", "keep");

    private Caller() {
    }

    static String call(OreRailway x, String name, int a, int b, int c) {
        try {
            if (name.equals("meanSpeed")) {
                return "" + x.meanSpeed();
            }
            return "" + answer(x, name, a, b, c);
        } catch (RuntimeException e) {
            // A machine's own exception shows by its class, a library's by where it was thrown.
            return e.getClass().getSimpleName() + (isOwn(e) ? "" : " by itself");
        }
    }

    private static boolean isOwn(RuntimeException e) {
        StackTraceElement[] trace = e.getStackTrace();
        return trace.length > 0 && trace[0].getClassName().split("\\$")[0].equals("OreRailway");
    }

    static boolean isQuery(String name) {
        return Arrays.asList(NAMES).indexOf(name) >= FIRST_QUERY;
    }

    /** Whether the document marks the method so. */
    static boolean isUndoable(String name) {
        return !isQuery(name) && !NOT_UNDOABLE.contains(name);
    }

    private static int answer(OreRailway x, String name, int a, int b, int c) {
        switch (name) {
            case "grade": return x.grade(a, b);
            case "spring": return x.spring(a, b);
            case "car": return x.car();
            case "load": return x.load(a, b);
            case "release": return x.release(a, b);
            case "brake": return x.brake(a, b);
            case "pull": return x.pull(a);
            case "set": return x.set(a, b);
            case "run": return x.run(a);
            case "append": return x.append(a);
            case "clearBuffer": return x.clearBuffer();
            case "firstError": return x.firstError();
            case "execute": return x.execute();
            case "undo": return x.undo();
            case "keep": return x.keep(a);
            case "goBack": return x.goBack(a);
            case "section": return x.section(a, b);
            case "carOf": return x.carOf(a, b);
            case "cars": return x.cars(a);
            case "rolling": return x.rolling(a);
            case "count": return x.count(a);
            case "refusal": return x.refusal(a, b != 0);
            case "ifAlone": return x.ifAlone(a, b, c);
            case "leastBrake": return x.leastBrake(a);
            case "ifRun": return x.ifRun(a, b);
            default: throw new AssertionError(name);
        }
    }
}
