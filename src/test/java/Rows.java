import java.util.ArrayList;
import java.util.HashMap;
import java.util.List;
import java.util.Map;

/**
 * The rows of the boundary tests: after some calls on a new object, one more call and what it has
 * to answer. Each row also looks at what the call leaves behind.
 */
final class Rows {
    static final String INDEX = "IndexOutOfBoundsException";
    static final String ARGUMENT = "IllegalArgumentException";
    static final String STATE = "IllegalStateException";

    /** No section has a grade and there is no drag: a car keeps its speed. */
    static final String FLAT = "grades 0, set 0 0";
    /** Each tick adds 9 to the speed of a car without brake. */
    static final String STEEP = "grades 9, set 0 0";
    /** With 4 of ore: the place 10 with the speed 4 after 4 ticks, the mill after 24. */
    static final String ROLLS = "car, load 0 4, release 0 0";
    static final String AT_MILL = ROLLS + ", run 24";
    /** It runs away at the place 10, with its brake 1 and heat 4. */
    static final String RAN_AWAY = "set 0 1, car, load 0 4, spring 1 3, release 0 1, run 4";

    private static final int SAVED_AT_MOST = 6;

    private static final Map<String, List<String>> VIEWS = new HashMap<>();

    private Rows() {
    }

    /** After the calls of the script the call answers this: a number, or an exception's name. */
    static void due(String script, String call, Object want) {
        List<String> calls = played(script);
        String got = Script.call(Script.played(calls), call);
        Check.holds(where(script, call) + " answered " + got + ", due is " + want,
                got.equals(want.toString()));
        leaves(script, calls, call, got.endsWith("Exception"));
    }

    /**
     * The number that stands for # in the call can be least to greatest, and no other one: then
     * the call throws the exception.
     */
    static void range(String script, String call, int least, int greatest, String exception) {
        int[] outside = {Integer.MIN_VALUE, least - 1, greatest + 1, Integer.MAX_VALUE};
        for (int number : outside) {
            due(script, with(call, number), exception);
        }
        for (int number = least; number <= greatest; number++) {
            String got = Script.call(Script.played(played(script)), with(call, number));
            Check.holds(where(script, with(call, number)) + " threw " + got,
                    !got.endsWith("Exception"));
        }
    }

    private static String with(String call, int number) {
        return call.replace("#", Integer.toString(number));
    }

    /** Both scripts have led to the same state. */
    static void sameState(String script, String other) {
        String state = View.ofState(Script.played(played(script)));
        Check.holds(Doc.quoted() + ": not the same state: [" + script + "] and [" + other + "]",
                state.equals(View.ofState(Script.played(played(other)))));
    }

    /** Both scripts have led to different states. */
    static void otherState(String script, String other) {
        String state = View.ofState(Script.played(played(script)));
        Check.holds(Doc.quoted() + ": the same state: [" + script + "] and [" + other + "]",
                !state.equals(View.ofState(Script.played(played(other)))));
    }

    private static String where(String script, String call) {
        return Doc.quoted() + ": [" + script + "] " + call;
    }

    /** The calls of the script, of which none may throw: a row would test something else then. */
    private static List<String> played(String script) {
        List<String> calls = Script.calls(script);
        if (!VIEWS.containsKey(script)) {
            OreRailway x = new OreRailway();
            for (String call : calls) {
                String answer = Script.call(x, call);
                Check.holds(where(script, call) + " threw " + answer,
                        !answer.endsWith("Exception"));
            }
            VIEWS.put(script, View.ofEverything(calls));
        }
        return calls;
    }

    private static void leaves(String script, List<String> calls, String call, boolean threw) {
        String name = call.split(" ")[0];
        List<String> more = new ArrayList<>(calls);
        more.add(call);
        if (threw || Caller.isQuery(name)) {
            Check.holds(where(script, call) + " changes something",
                    View.ofEverything(more).equals(VIEWS.get(script)));
        } else if (Caller.isUndoable(name)) {
            savesOneState(script, call, calls, more);
        } else if (!name.equals("undo")) {
            Check.holds(where(script, call) + " changes the state",
                    stateAfter(calls).equals(stateAfter(more))
                            && saved(calls) == saved(more));
        }
    }

    private static void savesOneState(String script, String call, List<String> calls,
            List<String> more) {
        int saved = saved(more);
        Check.holds(where(script, call) + " leaves " + saved + " saved states",
                saved == Math.min(SAVED_AT_MOST, saved(calls) + 1));
        List<String> back = new ArrayList<>(more);
        List<String> before = new ArrayList<>(calls);
        for (int depth = 1; depth <= saved; depth++) {
            back.add("undo");
            Check.holds(where(script, call) + ", undone " + depth + " times",
                    stateAfter(back).equals(stateAfter(before)));
            before.add("undo");
        }
    }

    private static int saved(List<String> calls) {
        return Script.played(calls).count(9);
    }

    private static String stateAfter(List<String> calls) {
        return View.ofState(Script.played(calls));
    }
}
