import java.util.Arrays;
import java.util.Random;
import java.util.TreeMap;

/** All promises: long runs of calls, the same each time, each answer compared with the model's. */
public final class ModelTest {
    private static final int RUNS = 10000;
    /** An object is used for at most 512 calls; all queries together are fewer than 300. */
    private static final int CALLS = 190;

    private static final int NEW = 0;
    private static final int STEEP = 1;

    private final Random random;
    private final OreRailway program = new OreRailway();
    private final Model model = new Model();
    private final TreeMap<String, Integer> seen;
    private final int run;
    private final int kind;
    private int calls = 0;

    private ModelTest(int run, TreeMap<String, Integer> seen) {
        this.run = run;
        this.random = new Random(run);
        this.seen = seen;
        this.kind = random.nextInt(3);
    }

    public static void main(String[] args) {
        TreeMap<String, Integer> seen = new TreeMap<>();
        for (int run = 0; run < RUNS; run++) {
            new ModelTest(run, seen).play();
        }
        String[] must = {"bump", "runaway", "several on a track", "spilled", "hot", "mill",
            "pulled", "too few mules", "refused", "still rolling", "executed several"};
        for (String what : must) {
            Check.holds("seen often: " + what + " in " + seen,
                    seen.getOrDefault(what, 0) >= 50);
        }
        Check.end();
    }

    private void play() {
        int end = CALLS - random.nextInt(CALLS * 2 / 3);
        prepare();
        while (calls < end) {
            int choice = random.nextInt(40);
            if (choice == 0) {
                orderText();
            } else if (choice < 3) {
                compare(Caller.NAMES[random.nextInt(Caller.NAMES.length)], wild(), wild(), wild());
            } else if (choice < 5) {
                track();
            } else if (choice < 7) {
                foresee();
            } else if (choice < 15) {
                compare("run", 1 + random.nextInt(random.nextInt(60) + 1), 0, 0);
            } else if (choice < 19) {
                query();
            } else {
                cars();
            }
        }
        compare("set", 2, random.nextInt(3), 0);
        compare("run", 1, 0, 0);
        compareAll();
    }

    /** Most runs begin with some loaded cars, on a track that is steep, flat or like a new one. */
    private void prepare() {
        int cars = random.nextInt(run % 8 + 2);
        for (int car = 0; car < cars; car++) {
            compare("car", 0, 0, 0);
            compare("load", car, 1 + random.nextInt(20), 0);
        }
        for (int section = 0; section < 30 && kind != NEW; section++) {
            compare("grade", section, random.nextInt(4) + (kind == STEEP ? 6 : 0), 0);
        }
        if (random.nextBoolean()) {
            compare("spring", 1 + random.nextInt(29), 1 + random.nextInt(20), 0);
        }
        compare("set", 0, random.nextInt(kind == STEEP ? 6 : 3), 0);
        compare("set", 1, random.nextInt(21), 0);
        compare("set", 2, random.nextInt(5), 0);
    }

    private int wild() {
        return random.nextInt(5) == 0 ? random.nextInt() : random.nextInt(12) - 2;
    }

    private void cars() {
        int car = random.nextInt(run % 8 + 1);
        switch (random.nextInt(24)) {
            case 0:
                compare("car", 0, 0, 0);
                break;
            case 1:
            case 2:
                compare("load", car, 1 + random.nextInt(20), 0);
                break;
            case 3:
            case 4:
            case 5:
                compare("brake", car, random.nextInt(10), 0);
                break;
            case 6:
            case 7:
            case 8:
            case 9:
                compare("pull", car, 0, 0);
                break;
            case 10:
                compare(random.nextBoolean() ? "undo" : "goBack", random.nextInt(2), 0, 0);
                break;
            case 11:
                compare("keep", random.nextInt(2), 0, 0);
                break;
            case 12:
            case 13:
            case 14:
                compare("run", 1 + random.nextInt(6), 0, 0);
                break;
            default:
                compare("release", car, mostlyLow() + (kind == STEEP ? 5 : 0), 0);
        }
    }

    private int mostlyLow() {
        return random.nextInt(random.nextInt(6) + 1);
    }

    private void track() {
        switch (random.nextInt(4)) {
            case 0:
                compare("set", random.nextInt(3), random.nextInt(6), 0);
                break;
            case 1:
                int limit = random.nextInt(3) == 0 ? 0 : random.nextInt(41);
                compare("spring", random.nextInt(30), limit, 0);
                break;
            default:
                compare("grade", random.nextInt(30), random.nextInt(10), 0);
        }
    }

    private void query() {
        switch (random.nextInt(5)) {
            case 0:
                compare("count", random.nextInt(14), 0, 0);
                break;
            case 1:
                compare("section", random.nextInt(30), random.nextInt(5), 0);
                break;
            case 2:
                compare("rolling", random.nextInt(4), 0, 0);
                break;
            case 3:
                compare("refusal", random.nextInt(run % 8 + 1), random.nextInt(2), 0);
                break;
            default:
                compare("carOf", random.nextInt(run % 8 + 1), random.nextInt(10), 0);
        }
    }

    private void foresee() {
        int what = random.nextInt(5);
        int ore = random.nextInt(21);
        String answer = compare("ifAlone", ore, random.nextInt(10), what);
        if (what == 0 && answer.equals("1")) {
            see("still rolling");
        }
        compare("ifRun", 1 + random.nextInt(200), random.nextInt(5), 0);
        compare("leastBrake", ore, 0, 0);
    }

    private void orderText() {
        int signs = random.nextInt(8);
        if (signs == 0) {
            String alphabet = "nlrbmt;+/0123456789x";
            for (int i = random.nextInt(20); i >= 0; i--) {
                compare("append", alphabet.charAt(random.nextInt(alphabet.length())), 0, 0);
            }
        } else {
            compare("clearBuffer", 0, 0, 0);
            for (int i = random.nextInt(9); i >= 0; i--) {
                append(order() + (i > 0 || signs == 1 ? ";" : ""));
            }
        }
        compare("firstError", 0, 0, 0);
        String answer = compare("execute", 0, 0, 0);
        if (answer.length() == 1 && answer.compareTo("3") >= 0) {
            see("executed several");
        }
    }

    private void append(String text) {
        for (int i = 0; i < text.length(); i++) {
            compare("append", text.charAt(i), 0, 0);
        }
    }

    private String order() {
        int car = random.nextInt(run % 8 + 1);
        String[] orders = {"n", "l" + car + "+" + (1 + random.nextInt(20)),
            "r" + car + "/" + random.nextInt(10), "b" + car + "/" + random.nextInt(10),
            "m" + car, "t" + (1 + random.nextInt(60)), "t" + (1 + random.nextInt(9)),
            "l" + car + "+" + random.nextInt(23), "t" + random.nextInt(70)};
        return orders[random.nextInt(random.nextInt(4) == 0 ? orders.length : orders.length - 2)];
    }

    private String compare(String name, int a, int b, int c) {
        calls++;
        String want = model.call(name, a, b, c);
        String got = Caller.call(program, name, a, b, c);
        Check.holds("run " + run + ": " + name + Arrays.toString(new int[] {a, b, c})
                + " answered " + got + ", due is " + want, got.equals(want));
        return want;
    }

    private void compareAll() {
        for (int what = 0; what <= 13; what++) {
            compare("count", what, 0, 0);
        }
        for (int section = 0; section < 30; section++) {
            for (int what = 0; what <= 4; what++) {
                compare("section", section, what, 0);
            }
        }
        for (int car = 0; car < due("count", 1, 0); car++) {
            for (int what = 0; what <= 9; what++) {
                compare("carOf", car, what, 0);
            }
            compare("rolling", car, 0, 0);
        }
        for (int state = 0; state <= 4; state++) {
            compare("cars", state, 0, 0);
        }
        compare("meanSpeed", 0, 0, 0);
        Check.holds("at most 512 calls, but " + calls, calls <= 512);
        lookAround();
    }

    private void see(String what) {
        seen.merge(what, 1, Integer::sum);
    }

    /** What the runs came to, by the model, so that it takes no calls of the program. */
    private void lookAround() {
        seeIf("runaway", due("cars", 3, 0) != 0);
        seeIf("mill", due("cars", 2, 0) != 0);
        seeIf("pulled", due("cars", 4, 0) != 0);
        seeIf("spilled", due("count", 5, 0) > 0);
        seeIf("refused", due("count", 8, 0) > 0);
        seeIf("too few mules", Integer.bitCount(due("cars", 4, 0)) > due("count", 13, 0));
        for (int section = 0; section < 30; section++) {
            seeIf("several on a track", Integer.bitCount(due("section", section, 3)) > 1);
        }
        for (int car = 0; car < due("count", 1, 0); car++) {
            seeIf("bump", due("carOf", car, 8) > 0);
            seeIf("hot", due("carOf", car, 5) > 100);
        }
    }

    private int due(String name, int a, int b) {
        return Integer.parseInt(model.call(name, a, b, 0));
    }

    private void seeIf(String what, boolean holds) {
        if (holds) {
            see(what);
        }
    }
}
