import java.io.IOException;
import java.lang.reflect.Method;
import java.lang.reflect.Modifier;
import java.nio.file.Files;
import java.nio.file.Paths;
import java.util.ArrayList;
import java.util.List;
import java.util.regex.Matcher;
import java.util.regex.Pattern;

/** What README.md shows of the class is true, and it leaves out no method. */
public final class ReadmeTest {
    private static final Pattern EXAMPLE = Pattern.compile("```java\n(.*?)```", Pattern.DOTALL);
    /** A call, and behind it what it answers. */
    private static final Pattern LINE =
            Pattern.compile("(?:int car = )?railway\\.(\\w+)\\((.*)\\); +// (-?\\d+)(?:: .*)?");
    private static final Pattern ORDERS = Pattern.compile("append the signs\\s+of\\s+`([^`]*)`");

    public static void main(String[] args) throws IOException {
        String text = Files.readString(Paths.get("README.md"));
        List<String> calls = playExample(found(EXAMPLE, text));
        playOrders(found(ORDERS, text), calls);
        for (Method method : OreRailway.class.getDeclaredMethods()) {
            Check.holds("README.md does not tell of " + method.getName(),
                    !Modifier.isPublic(method.getModifiers())
                            || text.contains("`" + method.getName() + "("));
        }
        Check.end();
    }

    private static String found(Pattern pattern, String text) {
        Matcher matcher = pattern.matcher(text);
        if (!matcher.find()) {
            throw new AssertionError("README.md has no " + pattern);
        }
        return matcher.group(1);
    }

    /** The calls of the example, as a Script has them. */
    private static List<String> playExample(String example) {
        String[] lines = example.split("\n");
        OreRailway railway = new OreRailway();
        List<String> calls = new ArrayList<>();
        Check.holds(lines[0], lines[0].equals("OreRailway railway = new OreRailway();"));
        for (int i = 1; i < lines.length; i++) {
            Matcher matcher = LINE.matcher(lines[i]);
            Check.holds("no call with an answer: " + lines[i], matcher.matches());
            String arguments = matcher.group(2).replace("car", "0").replace(",", "");
            String call = (matcher.group(1) + " " + arguments).strip();
            String got = Script.call(railway, call);
            Check.holds(lines[i] + " answered " + got, got.equals(matcher.group(3)));
            calls.add(call);
        }
        return calls;
    }

    /** The orders have to lead to where the calls of the example down to run lead. */
    private static void playOrders(String orders, List<String> calls) {
        List<String> same = calls.subList(0, calls.indexOf("run 60") + 1);
        Check.holds("the example has no run(60)", !same.isEmpty());
        OreRailway railway = new OreRailway();
        Check.type(railway, orders);
        railway.execute();
        Check.holds("the orders of README.md do something else than " + same,
                View.ofState(railway).equals(View.ofState(Script.played(same))));
    }
}
