import java.util.ArrayList;
import java.util.List;

/**
 * Calls written as a text, with a comma and a blank between them: "car, load 0 5, run 3".
 *
 * <p>"3*car" stands for three calls, "grades 0" sets the grades of all sections, and "type n;t5"
 * appends the signs of an order text.
 */
final class Script {
    /** An object is used for at most 512 calls, and a view of it takes nearly 300. */
    private static final int MAX_CALLS = 200;

    private Script() {
    }

    static List<String> calls(String script) {
        List<String> calls = new ArrayList<>();
        for (String part : script.isEmpty() ? new String[0] : script.split(", ")) {
            String[] times = part.split("\\*");
            for (int i = times.length == 1 ? 1 : Integer.parseInt(times[0]); i > 0; i--) {
                addCalls(calls, times[times.length - 1]);
            }
        }
        if (calls.size() > MAX_CALLS) {
            throw new AssertionError("too many calls: " + script);
        }
        return calls;
    }

    private static void addCalls(List<String> calls, String part) {
        String[] words = part.split(" ", 2);
        if (words[0].equals("grades")) {
            for (int section = 0; section < 30; section++) {
                calls.add("grade " + section + " " + words[1]);
            }
        } else if (words[0].equals("type")) {
            for (char sign : words[1].toCharArray()) {
                calls.add("append " + (int) sign);
            }
        } else {
            calls.add(part);
        }
    }

    /** A new object after the calls, whatever they answer. */
    static OreRailway played(List<String> calls) {
        OreRailway x = new OreRailway();
        for (String call : calls) {
            call(x, call);
        }
        return x;
    }

    /** Plays one call; the answer, or the exception's name. */
    static String call(OreRailway x, String call) {
        String[] words = call.split(" ");
        int[] numbers = new int[3];
        for (int i = 1; i < words.length; i++) {
            numbers[i - 1] = number(words[i]);
        }
        return Caller.call(x, words[0], numbers[0], numbers[1], numbers[2]);
    }

    private static int number(String word) {
        switch (word) {
            case "true": return 1;
            case "false": return 0;
            case "MIN": return Integer.MIN_VALUE;
            case "MAX": return Integer.MAX_VALUE;
            default: return Integer.parseInt(word);
        }
    }
}
