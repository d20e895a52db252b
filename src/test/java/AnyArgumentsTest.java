import java.lang.reflect.Method;
import java.util.HashMap;
import java.util.HashSet;
import java.util.Map;
import java.util.Random;
import java.util.Set;

/** LANGUAGE.md, rules 6 and 7, and "A call that throws an exception changes nothing". */
public final class AnyArgumentsTest {
    private static final int RUNS = 150;
    private static final int CALLS = 512;
    private static final int[] EDGES = {Integer.MIN_VALUE, Integer.MIN_VALUE + 1, -2, -1, 0, 1, 2,
        3, 4, 5, 6, 7, 8, 9, 10, 13, 14, 19, 20, 21, 29, 30, 31, 32, 33, 40, 41, 59, 60, 61, 62,
        63, 64, 65, 110, 126, 127, 200, 201, 65536, Integer.MAX_VALUE - 1, Integer.MAX_VALUE};

    private static final Map<String, Set<String>> NAMED = new HashMap<>();

    public static void main(String[] args) {
        for (Method method : OreRailway.class.getMethods()) {
            Set<String> names = new HashSet<>();
            for (Class<?> type : method.getExceptionTypes()) {
                names.add(type.getSimpleName());
            }
            NAMED.put(method.getName(), names);
        }
        for (int run = 0; run < RUNS; run++) {
            play(new Random(run));
        }
        Check.end();
    }

    private static void play(Random random) {
        OreRailway x = new OreRailway();
        for (int car = random.nextInt(9); car > 0; car--) {
            x.car();
        }
        for (int call = 0; call < CALLS; call++) {
            String name = Caller.NAMES[random.nextInt(Caller.NAMES.length)];
            String before = Check.everythingOf(x);
            int a = EDGES[random.nextInt(EDGES.length)];
            int b = EDGES[random.nextInt(EDGES.length)];
            int c = EDGES[random.nextInt(EDGES.length)];
            String answer = Caller.call(x, name, a, b, c);
            if (answer.contains("Exception")) {
                Check.holds(name + " " + a + " " + b + " " + c + " threw " + answer,
                        NAMED.get(name).contains(answer));
                Check.holds(name + " throws and changes", before.equals(Check.everythingOf(x)));
            } else if (isQuery(name)) {
                Check.holds(name + " changes", before.equals(Check.everythingOf(x)));
            }
        }
    }

    private static boolean isQuery(String name) {
        for (int i = Caller.FIRST_QUERY; i < Caller.NAMES.length; i++) {
            if (Caller.NAMES[i].equals(name)) {
                return true;
            }
        }
        return false;
    }
}
