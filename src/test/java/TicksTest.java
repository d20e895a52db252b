/** Promise 10 and the parts of a tick: speeds, heat, bumps, switches, the mill, mules. */
public final class TicksTest {
    public static void main(String[] args) {
        arguments();
        rollingDown();
        oreAndDrag();
        leastAndGreatestSpeed();
        heatOverHundred();
        heatLimits();
        spilling();
        bumps();
        noBumpAtTen();
        bumpBehindHigherNumber();
        stillRollingOnly();
        switchLimit();
        switchPassedThrough();
        switchBehindBump();
        switchAtStart();
        mules();
        Check.end();
    }

    private static void arguments() {
        OreRailway x = new OreRailway();
        Check.refuses("run(0)", IllegalArgumentException.class, () -> x.run(0));
        Check.refuses("run(61)", IllegalArgumentException.class, () -> x.run(61));
        Check.refuses("run(-1)", IllegalArgumentException.class, () -> x.run(-1));
        Check.due("throwing saves nothing", 0, () -> x.count(9));
        Check.due("run(1)", 0, () -> x.run(1));
        Check.due("run(60)", 0, () -> x.run(60));
        Check.due("tick", 61, () -> x.count(0));
        Check.due("one state a call", 2, () -> x.count(9));
        x.undo();
        Check.due("tick, undone", 1, () -> x.count(0));
    }

    /** Grade 3, drag 2: the speed grows by 1 each tick. */
    private static void rollingDown() {
        OreRailway x = new OreRailway();
        x.car();
        x.load(0, 4);
        x.release(0, 0);
        for (int tick = 1; tick < 24; tick++) {
            int t = tick;
            Check.due("delivers nothing yet", 0, () -> x.run(1));
            Check.due("speed at " + t, t, () -> x.carOf(0, 3));
            Check.due("place at " + t, t * (t + 1) / 2, () -> x.carOf(0, 4));
            Check.due("section at " + t, 1, () -> x.section(t * (t + 1) / 20, 2));
        }
        Check.due("delivers", 4, () -> x.run(60));
        Check.due("state", 2, () -> x.carOf(0, 0));
        Check.due("ore", 0, () -> x.carOf(0, 1));
        Check.due("brake", 0, () -> x.carOf(0, 2));
        Check.due("speed", 0, () -> x.carOf(0, 3));
        Check.due("place", 300, () -> x.carOf(0, 4));
        Check.due("delivered by the car", 4, () -> x.carOf(0, 7));
        Check.due("greatest speed", 24, () -> x.carOf(0, 9));
        Check.due("delivered", 4, () -> x.count(4));
        Check.due("spilled", 0, () -> x.count(5));
        Check.due("in cars", 0, () -> x.count(6));
        Check.due("no section has it", 0, () -> x.section(29, 2));
    }

    private static void oreAndDrag() {
        int[] ore = {1, 4, 5, 9, 10, 20};
        int[] speed = {1, 1, 2, 2, 3, 5};
        for (int i = 0; i < ore.length; i++) {
            int which = i;
            OreRailway x = new OreRailway();
            x.car();
            x.load(0, ore[i]);
            x.release(0, 0);
            x.run(1);
            Check.due("first speed with ore " + ore[i], speed[which], () -> x.carOf(0, 3));
        }
        OreRailway y = new OreRailway();
        y.car();
        y.set(0, 0);
        y.grade(0, 9);
        y.release(0, 4);
        y.run(1);
        Check.due("9 - 0 - 4", 5, () -> y.carOf(0, 3));
        y.set(0, 5);
        y.run(1);
        Check.due("5 + 9 - 5 - 4", 5, () -> y.carOf(0, 3));
        Check.due("place", 10, () -> y.carOf(0, 4));
        y.grade(0, 0);
        y.run(1);
        Check.due("the grade of the own section counts", 0, () -> y.carOf(0, 3));
    }

    private static void leastAndGreatestSpeed() {
        OreRailway x = new OreRailway();
        for (int section = 0; section < 30; section++) {
            x.grade(section, 9);
        }
        x.set(0, 0);
        x.car();
        x.load(0, 20);
        x.release(0, 0);
        x.run(3);
        Check.due("3 * 13", 39, () -> x.carOf(0, 3));
        x.run(1);
        Check.due("at most 40", 40, () -> x.carOf(0, 3));
        Check.due("place", 118, () -> x.carOf(0, 4));
        OreRailway y = new OreRailway();
        y.car();
        y.release(0, 9);
        y.run(5);
        Check.due("at least 0", 0, () -> y.carOf(0, 3));
        Check.due("it stands", 0, () -> y.carOf(0, 4));
        Check.due("it is rolling all the same", 1, () -> y.carOf(0, 0));
    }

    /** Grade 6, no drag, brake 5: the speed grows by 1, until the brake is too hot. */
    private static void heatOverHundred() {
        OreRailway x = new OreRailway();
        for (int section = 0; section < 30; section++) {
            x.grade(section, 6);
        }
        x.set(0, 0);
        x.car();
        x.release(0, 5);
        x.run(20);
        Check.due("heat 100", 100, () -> x.carOf(0, 5));
        Check.due("whole force", 5, () -> x.carOf(0, 6));
        Check.due("speed 20", 20, () -> x.carOf(0, 3));
        x.run(1);
        Check.due("heat 105", 105, () -> x.carOf(0, 5));
        Check.due("half a force", 2, () -> x.carOf(0, 6));
        Check.due("speed 21", 21, () -> x.carOf(0, 3));
        x.run(1);
        Check.due("speed 25", 25, () -> x.carOf(0, 3));
        Check.due("it heats by its brake", 110, () -> x.carOf(0, 5));
        x.brake(0, 9);
        Check.due("half of 9", 4, () -> x.carOf(0, 6));
    }

    private static void heatLimits() {
        OreRailway x = new OreRailway();
        for (int section = 0; section < 30; section++) {
            x.grade(section, 9);
        }
        x.set(0, 0);
        x.car();
        x.release(0, 8);
        x.run(1);
        Check.due("speed 1", 1, () -> x.carOf(0, 3));
        x.brake(0, 9);
        x.run(11);
        Check.due("heat 107", 107, () -> x.carOf(0, 5));
        Check.due("place 12", 12, () -> x.carOf(0, 4));
        x.run(10);
        Check.due("heat 197", 197, () -> x.carOf(0, 5));
        Check.due("place 279", 279, () -> x.carOf(0, 4));
        x.run(1);
        Check.due("at the mill", 2, () -> x.carOf(0, 0));
        Check.due("heat 200 at most, not cooler in this tick", 200, () -> x.carOf(0, 5));
        x.run(1);
        Check.due("heat 195", 195, () -> x.carOf(0, 5));
        Check.due("no brake, no force", 0, () -> x.carOf(0, 6));
        x.pull(0);
        x.run(38);
        Check.due("heat 5, pulled", 5, () -> x.carOf(0, 5));
        x.run(2);
        Check.due("heat 0", 0, () -> x.carOf(0, 5));
        OreRailway y = new OreRailway();
        y.car();
        y.grade(0, 5);
        y.release(0, 2);
        y.run(2);
        Check.due("heat 4", 4, () -> y.carOf(0, 5));
        y.brake(0, 9);
        y.run(1);
        Check.due("it stands", 0, () -> y.carOf(0, 3));
        Check.due("heat 0, not below", 0, () -> y.carOf(0, 5));
        OreRailway z = new OreRailway();
        z.car();
        z.grade(0, 9);
        z.release(0, 6);
        z.run(3);
        Check.due("heat 18", 18, () -> z.carOf(0, 5));
        z.brake(0, 9);
        z.run(2);
        Check.due("speed 0", 0, () -> z.carOf(0, 3));
        Check.due("a car that stands cools", 22, () -> z.carOf(0, 5));
    }

    /** Speed 25 or 26 in the sections from 3 on. */
    private static void spilling() {
        int[] ore = {4, 4, 3, 1};
        int[] grade = {7, 8, 8, 8};
        int[] delivered = {4, 2, 2, 1};
        for (int i = 0; i < ore.length; i++) {
            int which = i;
            OreRailway x = new OreRailway();
            for (int section = 1; section < 30; section++) {
                x.grade(section, 0);
            }
            x.set(0, 0);
            x.grade(0, 9);
            x.grade(2, grade[i]);
            x.car();
            x.load(0, ore[i]);
            x.release(0, 0);
            x.run(12);
            Check.due("speed", 18 + grade[which], () -> x.carOf(0, 3));
            Check.due("delivered", delivered[which], () -> x.run(1));
            Check.due("spilled", ore[which] - delivered[which], () -> x.count(5));
            Check.due("delivered by the car", delivered[which], () -> x.carOf(0, 7));
            Check.due("delivered so far", delivered[which], () -> x.count(4));
            Check.due("loaded so far", ore[which], () -> x.count(3));
        }
    }

    /** Car 0 stands at the place 10, and car 1 comes from behind. */
    private static void bumps() {
        OreRailway x = twoCars();
        x.run(4);
        x.brake(0, 9);
        x.run(1);
        Check.due("car 0 stands", 10, () -> x.carOf(0, 4));
        x.release(1, 0);
        x.run(1);
        Check.due("car 1 can't move", 0, () -> x.carOf(1, 4));
        Check.due("its speed is that of the other", 0, () -> x.carOf(1, 3));
        Check.due("its bumps", 1, () -> x.carOf(1, 8));
        Check.due("its greatest speed, ahead of the bump", 1, () -> x.carOf(1, 9));
        Check.due("the other has no bump", 0, () -> x.carOf(0, 8));
        x.run(3);
        Check.due("bumps of each tick", 4, () -> x.carOf(1, 8));
        x.brake(0, 0);
        x.run(1);
        Check.due("car 0 rolls", 11, () -> x.carOf(0, 4));
        Check.due("car 1 too, without bump", 1, () -> x.carOf(1, 4));
        Check.due("bumps", 4, () -> x.carOf(1, 8));
    }

    private static OreRailway twoCars() {
        OreRailway x = new OreRailway();
        x.car();
        x.car();
        x.release(0, 0);
        return x;
    }

    private static void noBumpAtTen() {
        OreRailway x = twoCars();
        x.run(6);
        x.brake(0, 9);
        x.run(1);
        Check.due("car 0 stands at 21", 21, () -> x.carOf(0, 4));
        x.release(1, 0);
        x.run(4);
        Check.due("car 1 at 10", 10, () -> x.carOf(1, 4));
        // A speed of 1 leads it just to 10 before the other.
        x.brake(1, 4);
        x.run(1);
        Check.due("car 1 at 11", 11, () -> x.carOf(1, 4));
        Check.due("no bump", 0, () -> x.carOf(1, 8));
        Check.due("it keeps its speed", 1, () -> x.carOf(1, 3));
        x.undo();
        x.brake(1, 3);
        x.run(1);
        Check.due("car 1 at 11 again", 11, () -> x.carOf(1, 4));
        Check.due("a bump", 1, () -> x.carOf(1, 8));
        Check.due("speed 0", 0, () -> x.carOf(1, 3));
        Check.due("greatest speed 4", 4, () -> x.carOf(1, 9));
    }

    /** Car 1 is before car 0 and slow, and moves first. */
    private static void bumpBehindHigherNumber() {
        OreRailway x = new OreRailway();
        x.car();
        x.car();
        x.release(1, 0);
        x.run(4);
        x.release(0, 0);
        x.grade(0, 9);
        x.brake(1, 4);
        x.run(1);
        Check.due("car 1: 4 + 3 - 2 - 4", 1, () -> x.carOf(1, 3));
        Check.due("car 1 moved", 11, () -> x.carOf(1, 4));
        Check.due("car 0 bumps at its place then", 1, () -> x.carOf(0, 4));
        Check.due("car 0 has its speed", 1, () -> x.carOf(0, 3));
        Check.due("greatest speed of car 0", 7, () -> x.carOf(0, 9));
        Check.due("first is", 1, () -> x.rolling(0));
        Check.due("second is", 0, () -> x.rolling(1));
    }

    /** A car that runs away or arrives in the same tick is no longer before the other one. */
    private static void stillRollingOnly() {
        OreRailway x = twoCars();
        x.run(4);
        x.release(1, 0);
        x.grade(0, 9);
        x.spring(2, 5);
        x.run(1);
        Check.due("car 0 at 15", 15, () -> x.carOf(0, 4));
        Check.due("car 1 bumps at 5", 5, () -> x.carOf(1, 4));
        x.run(1);
        Check.due("car 0 ran away", 3, () -> x.carOf(0, 0));
        Check.due("car 1: 5 + 7", 12, () -> x.carOf(1, 3));
        Check.due("car 1 at 17", 17, () -> x.carOf(1, 4));
        Check.due("car 1 bumped once", 1, () -> x.carOf(1, 8));
        x.run(1);
        Check.due("car 1 runs away as well", 3, () -> x.carOf(1, 0));
        Check.due("both on one track", 3, () -> x.section(2, 3));
        Check.due("two ran away there", 2, () -> x.section(2, 4));
    }

    private static void switchLimit() {
        OreRailway x = new OreRailway();
        x.spring(2, 6);
        x.car();
        x.load(0, 4);
        x.release(0, 0);
        x.run(6);
        Check.due("speed 6 is not greater than 6", 1, () -> x.carOf(0, 0));
        Check.due("at 21", 21, () -> x.carOf(0, 4));
        x.undo();
        x.spring(2, 5);
        x.run(6);
        Check.due("speed 6 is greater than 5", 3, () -> x.carOf(0, 0));
        Check.due("at the beginning of the section", 20, () -> x.carOf(0, 4));
        Check.due("speed", 0, () -> x.carOf(0, 3));
        Check.due("ore", 4, () -> x.carOf(0, 1));
        Check.due("nothing is spilled", 0, () -> x.count(5));
        Check.due("on the track", 1, () -> x.section(2, 3));
        Check.due("not rolling there", 0, () -> x.section(2, 2));
        Check.due("ran away there", 1, () -> x.section(2, 4));
        x.spring(2, 0);
        Check.due("on the track without switch", 1, () -> x.section(2, 3));
        Check.due("ran away so far", 1, () -> x.section(2, 4));
        x.run(60);
        Check.due("it stays", 20, () -> x.carOf(0, 4));
        x.pull(0);
        Check.due("not on the track", 0, () -> x.section(2, 3));
        Check.due("ran away so far, pulled", 1, () -> x.section(2, 4));
    }

    /** The fifteenth tick leads from 105 through the section 11 to 120, with the speed 15. */
    private static void switchPassedThrough() {
        int[][] limits = {{14, 0, 110}, {14, 1, 110}, {15, 14, 120}, {1, 14, 110}};
        for (int[] limit : limits) {
            OreRailway x = new OreRailway();
            x.car();
            x.release(0, 0);
            x.run(14);
            Check.due("at 105", 105, () -> x.carOf(0, 4));
            x.spring(11, limit[0]);
            x.spring(12, limit[1]);
            x.run(1);
            Check.due("limits " + limit[0] + ", " + limit[1], limit[2], () -> x.carOf(0, 4));
            Check.due("ran away", 3, () -> x.carOf(0, 0));
            Check.due("counted there", 1, () -> x.section(limit[2] / 10, 4));
            Check.due("counted there only", 0, () -> x.section(23 - limit[2] / 10, 4));
        }
        OreRailway y = new OreRailway();
        y.car();
        y.load(0, 4);
        y.spring(29, 23);
        y.release(0, 0);
        Check.due("nothing delivered, past the mill", 0, () -> y.run(24));
        Check.due("the switch counts before the mill", 290, () -> y.carOf(0, 4));
    }

    /** Car 0 stands at 30; car 1 bumps at 20, with the speed 0 then. */
    private static void switchBehindBump() {
        OreRailway x = twoCars();
        x.run(7);
        x.brake(0, 6);
        x.run(1);
        Check.due("car 0 at 30", 30, () -> x.carOf(0, 4));
        x.brake(0, 9);
        x.run(1);
        Check.due("car 0 stands", 0, () -> x.carOf(0, 3));
        x.spring(2, 1);
        x.release(1, 0);
        x.run(6);
        Check.due("car 1 at 20", 20, () -> x.carOf(1, 4));
        Check.due("car 1 is still rolling", 1, () -> x.carOf(1, 0));
        Check.due("car 1 bumped", 1, () -> x.carOf(1, 8));
        Check.due("nobody ran away", 0, () -> x.section(2, 4));
    }

    private static void switchAtStart() {
        OreRailway x = new OreRailway();
        x.car();
        x.release(0, 0);
        x.run(4);
        x.spring(1, 1);
        Check.due("at the beginning of section 1", 10, () -> x.carOf(0, 4));
        x.run(1);
        Check.due("it does not move into it again", 1, () -> x.carOf(0, 0));
        OreRailway y = new OreRailway();
        y.car();
        y.spring(1, 3);
        y.release(0, 0);
        y.run(4);
        Check.due("just to the beginning is into it", 3, () -> y.carOf(0, 0));
        Check.due("its place", 10, () -> y.carOf(0, 4));
    }

    private static void mules() {
        OreRailway x = twoCars();
        x.run(4);
        x.release(1, 0);
        x.run(24);
        x.set(2, 2);
        x.set(1, 7);
        x.pull(0);
        x.run(1);
        x.pull(1);
        Check.due("both are pulled", 3, () -> x.cars(4));
        Check.due("no mule is free", 0, () -> x.count(7));
        Check.due("car 0 at 293", 293, () -> x.carOf(0, 4));
        x.set(2, 0);
        Check.due("free mules are at least 0", 0, () -> x.count(7));
        x.run(41);
        Check.due("pulled on all the same", 6, () -> x.carOf(0, 4));
        Check.due("the other too", 13, () -> x.carOf(1, 4));
        x.run(1);
        Check.due("not beyond the mine", 0, () -> x.carOf(0, 4));
        Check.due("at the mine", 0, () -> x.carOf(0, 0));
        Check.due("no mule, none free", 0, () -> x.count(7));
        x.set(2, 3);
        Check.due("two of three are free", 2, () -> x.count(7));
        Check.due("pulled cars stop no release", 0, () -> x.release(0, 0));
        x.run(1);
        Check.due("pulled cars are no obstacle", 1, () -> x.carOf(0, 4));
        Check.due("car 1 at the mine", 0, () -> x.carOf(1, 0));
    }
}
