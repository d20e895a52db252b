import java.util.Arrays;
import java.util.Random;
import java.util.TreeMap;

/** All promises: long runs of calls, the same each time, each answer compared with the model's. */
public final class ModelTest {
    private static final int RUNS = 120;
    private static final int CALLS = 300;

    private final Random random;
    private final OreRailway program = new OreRailway();
    private final Model model = new Model();
    private final TreeMap<String, Integer> seen;
    private final int run;

    private ModelTest(int run, TreeMap<String, Integer> seen) {
        this.run = run;
        this.random = new Random(run);
        this.seen = seen;
    }

    public static void main(String[] args) {
        TreeMap<String, Integer> seen = new TreeMap<>();
        for (int run = 0; run < RUNS; run++) {
            new ModelTest(run, seen).play();
        }
        String[] must = {"bump", "runaway", "several on a track", "spilled", "hot", "mill",
            "pulled", "too few mules", "refused", "still rolling", "executed several"};
        for (String what : must) {
            Check.holds("seen often: " + what + " in " + seen,
                    seen.getOrDefault(what, 0) >= 50);
        }
        Check.end();
    }

    private void play() {
        for (int call = 0; call < CALLS; call++) {
            switch (random.nextInt(9)) {
                case 0:
                    orderText();
                    break;
                case 1:
                    compare(Caller.NAMES[random.nextInt(Caller.NAMES.length)], wild(), wild(),
                            wild());
                    break;
                case 2:
                    track();
                    break;
                case 3:
                    foresee();
                    break;
                case 4:
                    compare("run", 1 + random.nextInt(random.nextInt(60) + 1), 0, 0);
                    break;
                default:
                    cars();
            }
            compareAll();
        }
    }

    private int wild() {
        return random.nextInt(5) == 0 ? random.nextInt() : random.nextInt(12) - 2;
    }

    private void cars() {
        int car = random.nextInt(run % 8 + 1);
        switch (random.nextInt(10)) {
            case 0:
                compare("car", 0, 0, 0);
                break;
            case 1:
                compare("load", car, 1 + random.nextInt(20), 0);
                break;
            case 2:
                compare("brake", car, random.nextInt(10), 0);
                break;
            case 3:
                compare("pull", car, 0, 0);
                break;
            case 4:
                compare(random.nextBoolean() ? "undo" : "goBack", random.nextInt(2), 0, 0);
                break;
            case 5:
                compare("keep", random.nextInt(2), 0, 0);
                break;
            case 6:
                compare("run", 1 + random.nextInt(6), 0, 0);
                break;
            default:
                compare("release", car, random.nextInt(random.nextInt(10) + 1), 0);
        }
    }

    private void track() {
        switch (random.nextInt(4)) {
            case 0:
                compare("set", random.nextInt(3), random.nextInt(6), 0);
                break;
            case 1:
                int limit = random.nextInt(3) == 0 ? 0 : random.nextInt(41);
                compare("spring", random.nextInt(30), limit, 0);
                break;
            default:
                compare("grade", random.nextInt(30), random.nextInt(10), 0);
        }
    }

    private void foresee() {
        int ore = random.nextInt(21);
        int brake = random.nextInt(10);
        int ticks = 1 + random.nextInt(200);
        for (int what = 0; what <= 4; what++) {
            String answer = compare("ifAlone", ore, brake, what);
            if (what == 0 && answer.equals("1")) {
                see("still rolling");
            }
            compare("ifRun", ticks, what, 0);
        }
        compare("leastBrake", ore, 0, 0);
    }

    private void orderText() {
        int signs = random.nextInt(8);
        if (signs == 0) {
            String alphabet = "nlrbmt;+/0123456789x";
            for (int i = random.nextInt(70); i >= 0; i--) {
                compare("append", alphabet.charAt(random.nextInt(alphabet.length())), 0, 0);
                compare("firstError", 0, 0, 0);
            }
        } else {
            compare("clearBuffer", 0, 0, 0);
            for (int i = random.nextInt(9); i >= 0; i--) {
                append(order() + (i > 0 || signs == 1 ? ";" : ""));
            }
        }
        compare("firstError", 0, 0, 0);
        String answer = compare("execute", 0, 0, 0);
        if (answer.length() == 1 && answer.compareTo("3") >= 0) {
            see("executed several");
        }
    }

    private void append(String text) {
        for (int i = 0; i < text.length(); i++) {
            compare("append", text.charAt(i), 0, 0);
        }
    }

    private String order() {
        int car = random.nextInt(run % 8 + 1);
        String[] orders = {"n", "l" + car + "+" + (1 + random.nextInt(20)),
            "r" + car + "/" + random.nextInt(10), "b" + car + "/" + random.nextInt(10),
            "m" + car, "t" + (1 + random.nextInt(60)), "t" + (1 + random.nextInt(9)),
            "l" + car + "+" + random.nextInt(23), "t" + random.nextInt(70)};
        return orders[random.nextInt(random.nextInt(4) == 0 ? orders.length : orders.length - 2)];
    }

    private String compare(String name, int a, int b, int c) {
        String want = model.call(name, a, b, c);
        String got = Caller.call(program, name, a, b, c);
        Check.holds("run " + run + ": " + name + Arrays.toString(new int[] {a, b, c})
                + " answered " + got + ", due is " + want, got.equals(want));
        return want;
    }

    private void compareAll() {
        for (int what = 0; what <= 13; what++) {
            compare("count", what, 0, 0);
        }
        for (int section = 0; section < 30; section++) {
            for (int what = 0; what <= 4; what++) {
                compare("section", section, what, 0);
            }
        }
        for (int car = 0; car <= 8; car++) {
            for (int what = 0; what <= 9; what++) {
                compare("carOf", car, what, 0);
            }
            compare("rolling", car, 0, 0);
            compare("refusal", car, 0, 0);
            compare("refusal", car, 1, 0);
        }
        for (int state = 0; state <= 4; state++) {
            compare("cars", state, 0, 0);
        }
        compare("meanSpeed", 0, 0, 0);
        lookAround();
    }

    private void see(String what) {
        seen.merge(what, 1, Integer::sum);
    }

    private void lookAround() {
        seeIf("runaway", program.cars(3) != 0);
        seeIf("mill", program.cars(2) != 0);
        seeIf("pulled", program.cars(4) != 0);
        seeIf("spilled", program.count(5) > 0);
        seeIf("refused", program.count(8) > 0);
        seeIf("too few mules", Integer.bitCount(program.cars(4)) > program.count(13));
        for (int section = 0; section < 30; section++) {
            seeIf("several on a track", Integer.bitCount(program.section(section, 3)) > 1);
        }
        for (int car = 0; car < program.count(1); car++) {
            seeIf("bump", program.carOf(car, 8) > 0);
            seeIf("hot", program.carOf(car, 5) > 100);
        }
    }

    private void seeIf(String what, boolean holds) {
        if (holds) {
            see(what);
        }
    }
}
