import java.lang.reflect.Method;
import java.util.HashMap;
import java.util.HashSet;
import java.util.Map;
import java.util.Random;
import java.util.Set;

/** LANGUAGE.md, rules 6 and 7, and "A call that throws an exception changes nothing". */
public final class AnyArgumentsTest {
    private static final int RUNS = 5000;
    /** With those of a view it stays at less than 512 calls on an object. */
    private static final int CALLS = 200;
    private static final int[] EDGES = {Integer.MIN_VALUE, Integer.MIN_VALUE + 1, -2, -1, 0, 1, 2,
        3, 4, 5, 6, 7, 8, 9, 10, 13, 14, 19, 20, 21, 29, 30, 31, 32, 33, 40, 41, 59, 60, 61, 62,
        63, 64, 65, 110, 126, 127, 200, 201, 65536, Integer.MAX_VALUE - 1, Integer.MAX_VALUE};

    private static final Map<String, Set<String>> NAMED = new HashMap<>();

    public static void main(String[] args) {
        for (Method method : OreRailway.class.getMethods()) {
            Set<String> names = new HashSet<>();
            for (Class<?> type : method.getExceptionTypes()) {
                names.add(type.getSimpleName());
            }
            NAMED.put(method.getName(), names);
        }
        for (int run = 0; run < RUNS; run++) {
            play(run);
        }
        Check.end();
    }

    /** Two objects with the same calls; then one of them gets another call. */
    private static void play(int seed) {
        OreRailway x = new OreRailway();
        OreRailway y = new OreRailway();
        playCalls(x, new Random(seed));
        Random random = new Random(seed);
        playCalls(y, random);
        String name = Caller.NAMES[random.nextInt(Caller.NAMES.length)];
        int a = edge(random);
        int b = edge(random);
        int c = edge(random);
        String answer = Caller.call(x, name, a, b, c);
        String call = name + " " + a + " " + b + " " + c + " answered " + answer;
        boolean threw = answer.contains("Exception");
        Check.holds(call, !threw || NAMED.get(name).contains(answer));
        if (threw || Caller.isQuery(name)) {
            Check.holds(call + " and changed something", View.ofAll(x).equals(View.ofAll(y)));
        }
    }

    /** Some cars, and then calls with any arguments; each may throw only what is named. */
    private static void playCalls(OreRailway x, Random random) {
        for (int car = random.nextInt(9); car > 0; car--) {
            x.car();
        }
        for (int call = random.nextInt(CALLS); call > 0; call--) {
            String name = Caller.NAMES[random.nextInt(Caller.NAMES.length)];
            String answer = Caller.call(x, name, edge(random), edge(random), edge(random));
            Check.holds(name + " answered " + answer,
                    !answer.contains("Exception") || NAMED.get(name).contains(answer));
        }
    }

    private static int edge(Random random) {
        return EDGES[random.nextInt(EDGES.length)];
    }
}
