/** Promises 24 to 27: ifAlone, leastBrake, ifRun, meanSpeed. */
public final class ForesightTest {
    /** With no drag and brake 1, a car without ore takes 200 ticks for the one, 201 for the other. */
    private static final int[] IN_200 = {2, 1, 3, 0, 0, 0, 2, 0, 1, 1, 1, 1, 1, 1, 1, 3, 2};
    private static final int[] IN_201 = {3, 1, 5, 0, 0, 0, 3, 1, 0, 1, 0, 0, 1, 1, 1, 1, 1, 1,
        1, 1};

    /** A car that did much before, and one that stands in the way. */
    private static final String OTHERS =
            "n;n;l0+9;r0/0;t17;m0;t50;l0+15;r0/2;t9;r1/0;t4;b1/9;t1";

    public static void main(String[] args) {
        arguments();
        alone();
        aloneOnOthersTrack();
        aloneForLong();
        leastBrakes();
        ahead();
        meanSpeeds();
        Check.end();
    }

    private static void arguments() {
        OreRailway x = new OreRailway();
        int[][] wrong = {{-1, 0, 0}, {21, 0, 0}, {0, -1, 0}, {0, 10, 0}, {0, 0, -1}, {0, 0, 5}};
        for (int[] w : wrong) {
            Check.refuses("ifAlone", IllegalArgumentException.class,
                    () -> x.ifAlone(w[0], w[1], w[2]));
        }
        Check.refuses("leastBrake(-1)", IllegalArgumentException.class, () -> x.leastBrake(-1));
        Check.refuses("leastBrake(21)", IllegalArgumentException.class, () -> x.leastBrake(21));
        Check.refuses("ifRun(0, 0)", IllegalArgumentException.class, () -> x.ifRun(0, 0));
        Check.refuses("ifRun(201, 0)", IllegalArgumentException.class, () -> x.ifRun(201, 0));
        Check.refuses("ifRun(1, -1)", IllegalArgumentException.class, () -> x.ifRun(1, -1));
        Check.refuses("ifRun(1, 5)", IllegalArgumentException.class, () -> x.ifRun(1, 5));
    }

    private static void answers(OreRailway x, int ore, int brake, int[] want) {
        for (int what = 0; what <= 4; what++) {
            int w = what;
            Check.due("ifAlone(" + ore + ", " + brake + ", " + w + ")", want[w],
                    () -> x.ifAlone(ore, brake, w));
        }
    }

    private static void alone() {
        OreRailway x = new OreRailway();
        answers(x, 0, 0, new int[] {2, 24, 0, 300, 24});
        answers(x, 4, 0, new int[] {2, 24, 4, 300, 24});
        answers(x, 9, 0, new int[] {2, 17, 5, 300, 34});
        answers(x, 0, 9, new int[] {1, 200, 0, 0, 0});
        x.spring(11, 14);
        answers(x, 4, 0, new int[] {3, 15, 0, 110, 15});
        x.spring(11, 15);
        answers(x, 4, 0, new int[] {2, 24, 4, 300, 24});
        x.set(0, 3);
        answers(x, 4, 0, new int[] {1, 200, 0, 0, 0});
    }

    /** The cars on the track do not matter, but its grades, switches and settings do. */
    private static void aloneOnOthersTrack() {
        OreRailway x = new OreRailway();
        x.car();
        x.load(0, 20);
        x.release(0, 9);
        x.run(10);
        answers(x, 4, 0, new int[] {2, 24, 4, 300, 24});
        Check.due("the car is still there", 20, () -> x.carOf(0, 1));
        x.grade(0, 2);
        answers(x, 4, 0, new int[] {1, 200, 0, 0, 0});
        answers(x, 5, 0, new int[] {2, 19, 3, 300, 34});
        OreRailway y = new OreRailway();
        Check.type(y, OTHERS);
        y.execute();
        Check.due("car 0 has heat", 28, () -> y.carOf(0, 5));
        Check.due("car 0 delivered", 5, () -> y.carOf(0, 7));
        Check.due("car 0 was fast", 34, () -> y.carOf(0, 9));
        Check.due("car 1 stands in the way", 10, () -> y.carOf(1, 4));
        answers(y, 4, 0, new int[] {2, 24, 4, 300, 24});
        Check.due("heat stays", 28, () -> y.carOf(0, 5));
        for (int ore = 0; ore <= 20; ore++) {
            asOnEmptyTrack(ore);
        }
    }

    /** Each ore has objects of its own: an object is used for at most 512 calls. */
    private static void asOnEmptyTrack(int ore) {
        OreRailway empty = new OreRailway();
        OreRailway y = new OreRailway();
        Check.type(y, OTHERS);
        y.execute();
        for (int brake = 0; brake <= 9; brake++) {
            for (int what = 0; what <= 4; what++) {
                Check.holds("as on an empty track",
                        y.ifAlone(ore, brake, what) == empty.ifAlone(ore, brake, what));
            }
        }
        Check.holds("least as on an empty track", y.leastBrake(ore) == empty.leastBrake(ore));
    }

    private static OreRailway track(int[] grades) {
        OreRailway x = new OreRailway();
        for (int section = 0; section < 30; section++) {
            x.grade(section, section < grades.length ? grades[section] : 0);
        }
        x.set(0, 0);
        return x;
    }

    private static void aloneForLong() {
        OreRailway x = track(IN_200);
        Check.due("at the mill in tick 200", 2, () -> x.ifAlone(4, 1, 0));
        Check.due("ticks", 200, () -> x.ifAlone(4, 1, 1));
        Check.due("delivered", 4, () -> x.ifAlone(4, 1, 2));
        OreRailway y = track(IN_201);
        Check.due("still rolling", 1, () -> y.ifAlone(4, 1, 0));
        Check.due("ticks", 200, () -> y.ifAlone(4, 1, 1));
        Check.due("nothing delivered", 0, () -> y.ifAlone(4, 1, 2));
    }

    private static void leastBrakes() {
        OreRailway x = new OreRailway();
        Check.due("leastBrake(0)", 0, () -> x.leastBrake(0));
        Check.due("leastBrake(4)", 0, () -> x.leastBrake(4));
        // With 5 of ore and no brake the speed at the mill is 34, with brake 1 it is 24.
        Check.due("leastBrake(5)", 1, () -> x.leastBrake(5));
        Check.due("leastBrake(9)", 1, () -> x.leastBrake(9));
        x.set(0, 3);
        Check.due("a car that stands", OreRailway.NONE, () -> x.leastBrake(0));
        x.set(0, 2);
        x.spring(29, 1);
        Check.due("a car that runs away", OreRailway.NONE, () -> x.leastBrake(0));
        x.spring(29, 0);
        x.grade(0, 4);
        x.grade(29, 9);
        // Too fast is no harm for ore of which no half can be spilled.
        Check.due("leastBrake(1)", 0, () -> x.leastBrake(1));
        // Brake 9 enters section 1 with the speed 4, and keeps it, hot or not; the others are faster.
        OreRailway w = track(new int[] {9, 8, 8, 8});
        for (int section = 4; section < 30; section++) {
            w.grade(section, 3);
        }
        w.spring(1, 5);
        Check.due("leastBrake(5)", 9, () -> w.leastBrake(5));
        Check.due("ticks with brake 9", 77, () -> w.ifAlone(5, 9, 1));
        Check.due("brake 8 runs away", 3, () -> w.ifAlone(5, 8, 0));
        Check.due("its greatest speed", 6, () -> w.ifAlone(5, 8, 4));
        OreRailway y = track(IN_200);
        y.spring(29, 8);
        Check.due("brake 0 runs away", 3, () -> y.ifAlone(4, 0, 0));
        Check.due("within 200 ticks", 1, () -> y.leastBrake(4));
        OreRailway z = track(IN_201);
        z.spring(29, 8);
        Check.due("brake 0 runs away too", 3, () -> z.ifAlone(4, 0, 0));
        Check.due("201 ticks are too many", OreRailway.NONE, () -> z.leastBrake(4));
    }

    private static void ahead() {
        OreRailway x = new OreRailway();
        Check.due("nothing is delivered", 0, () -> x.ifRun(200, 0));
        x.car();
        x.car();
        x.car();
        x.load(0, 9);
        x.load(1, 3);
        x.release(0, 0);
        Check.due("not yet", 0, () -> x.ifRun(16, 0));
        Check.due("delivered in 17", 5, () -> x.ifRun(17, 0));
        Check.due("spilled in 17", 4, () -> x.ifRun(17, 1));
        Check.due("rolling in 16", 1, () -> x.ifRun(16, 4));
        Check.due("rolling in 17", 0, () -> x.ifRun(17, 4));
        x.run(17);
        Check.due("not again", 0, () -> x.ifRun(200, 0));
        Check.due("nor spilled", 0, () -> x.ifRun(200, 1));
        x.release(1, 0);
        x.run(4);
        x.brake(1, 9);
        x.run(1);
        x.release(2, 0);
        Check.due("bumps in 1", 1, () -> x.ifRun(1, 3));
        Check.due("bumps in 200", 200, () -> x.ifRun(200, 3));
        x.run(3);
        Check.due("bumps so far do not count", 2, () -> x.ifRun(2, 3));
        Check.due("both are rolling", 6, () -> x.ifRun(200, 4));
        x.brake(1, 0);
        x.spring(2, 1);
        Check.due("one runs away", 2, () -> x.ifRun(5, 2));
        Check.due("the other too", 6, () -> x.ifRun(200, 2));
        x.run(60);
        Check.due("on runaway tracks before", 6, () -> x.ifRun(1, 2));
        Check.due("ticks pass on trial only", 85, () -> x.count(0));
        OreRailway y = new OreRailway();
        Check.type(y, "n;n;r1/0;t4;b1/9;t1;r0/0");
        y.execute();
        Check.due("bumps of car 0", 3, () -> y.ifRun(3, 3));
    }

    private static void meanSpeeds() {
        OreRailway x = new OreRailway();
        Check.due("none", 0, x::meanSpeed);
        x.car();
        x.car();
        x.car();
        x.release(0, 0);
        Check.due("at the beginning", 0, x::meanSpeed);
        x.run(4);
        Check.due("one", 4, x::meanSpeed);
        x.release(1, 0);
        Check.due("two", 2, x::meanSpeed);
        x.run(5);
        Check.due("two then", 7, x::meanSpeed);
        x.release(2, 0);
        Check.due("three", 14.0f / 3.0f, x::meanSpeed);
        x.run(60);
        Check.due("none is rolling", 0, x::meanSpeed);
    }
}
