/** Promises 4 to 8: car, load, release, brake, pull. */
public final class CarsTest {
    public static void main(String[] args) {
        adding();
        loading();
        releasing();
        braking();
        pulling();
        pullingFromRunaway();
        Check.end();
    }

    private static void adding() {
        OreRailway x = new OreRailway();
        for (int car = 0; car < 8; car++) {
            int c = car;
            Check.due("car " + c, c, x::car);
            Check.due("cars " + c, c + 1, () -> x.count(1));
            for (int what = 0; what <= 9; what++) {
                int w = what;
                Check.due("new car " + c + ", " + w, 0, () -> x.carOf(c, w));
            }
        }
        Check.due("all are at the mine", 255, () -> x.cars(0));
        Check.refuses("a ninth car", IllegalStateException.class, x::car);
        Check.due("car saves", 6, () -> x.count(9));
        x.load(7, 5);
        x.undo();
        Check.due("undo of load", 5, () -> x.count(9));
        x.undo();
        Check.due("undo of car", 7, () -> x.count(1));
        Check.due("the same number again", 7, x::car);
        Check.due("a car as new", 0, () -> x.carOf(7, 1));
    }

    private static void loading() {
        OreRailway x = new OreRailway();
        Check.refuses("load without car", IndexOutOfBoundsException.class, () -> x.load(0, 0));
        x.car();
        x.car();
        Check.due("load(1, 1)", 1, () -> x.load(1, 1));
        Check.due("load(1, 18)", 19, () -> x.load(1, 18));
        Check.refuses("load(1, 2)", IllegalStateException.class, () -> x.load(1, 2));
        Check.due("load(1, 1) again", 20, () -> x.load(1, 1));
        Check.due("ore of 1", 20, () -> x.carOf(1, 1));
        Check.due("ore of 0", 0, () -> x.carOf(0, 1));
        Check.due("loaded", 20, () -> x.count(3));
        Check.due("in cars", 20, () -> x.count(6));
        x.load(0, 7);
        Check.due("in both cars", 27, () -> x.count(6));
        x.undo();
        Check.due("load saves", 5, () -> x.count(9));
        Check.due("load(0, 20)", 20, () -> x.load(0, 20));
        x.undo();
        Check.due("loaded, undone", 20, () -> x.count(3));
        Check.refuses("load(2, 21)", IndexOutOfBoundsException.class, () -> x.load(2, 21));
        Check.refuses("load(-1, 1)", IndexOutOfBoundsException.class, () -> x.load(-1, 1));
        Check.refuses("load(0, 0)", IllegalArgumentException.class, () -> x.load(0, 0));
        Check.refuses("load(0, 21)", IllegalArgumentException.class, () -> x.load(0, 21));
        Check.refuses("load(1, 21)", IllegalArgumentException.class, () -> x.load(1, 21));
        Check.refuses("load(1, 1), full", IllegalStateException.class, () -> x.load(1, 1));
        x.release(0, 9);
        Check.refuses("load of a rolling car", IllegalStateException.class, () -> x.load(0, 1));
        Check.refuses("a wrong load of a rolling car", IllegalArgumentException.class,
                () -> x.load(0, 0));
    }

    private static void releasing() {
        OreRailway x = new OreRailway();
        x.car();
        x.car();
        Check.refuses("release(2, 10)", IndexOutOfBoundsException.class, () -> x.release(2, 10));
        Check.refuses("release(-1, 0)", IndexOutOfBoundsException.class, () -> x.release(-1, 0));
        Check.refuses("release(0, 10)", IllegalArgumentException.class, () -> x.release(0, 10));
        Check.refuses("release(0, -1)", IllegalArgumentException.class, () -> x.release(0, -1));
        Check.due("release(0, 0)", 0, () -> x.release(0, 0));
        Check.due("state", 1, () -> x.carOf(0, 0));
        Check.due("release of a rolling car", 1, () -> x.release(0, 9));
        Check.due("its brake stays", 0, () -> x.carOf(0, 2));
        Check.due("release of another", 2, () -> x.release(1, 4));
        Check.due("it stays", 0, () -> x.carOf(1, 0));
        Check.due("its brake stays too", 0, () -> x.carOf(1, 2));
        Check.due("refusals", 2, () -> x.count(8));
        Check.due("release saves, also refused", 5, () -> x.count(9));
        x.run(3);
        Check.due("place 6", 6, () -> x.carOf(0, 4));
        Check.due("refusal at place 6", 2, () -> x.refusal(1, true));
        x.run(1);
        Check.due("place 10", 10, () -> x.carOf(0, 4));
        Check.due("released behind place 10", 0, () -> x.release(1, 9));
        Check.due("brake of release", 9, () -> x.carOf(1, 2));
        x.undo();
        Check.due("release undone", 0, () -> x.carOf(1, 0));
        x.undo();
        x.undo();
        x.undo();
        Check.due("refused release undone", 1, () -> x.count(8));
    }

    private static void braking() {
        OreRailway x = new OreRailway();
        x.car();
        x.car();
        Check.refuses("brake at the mine", IllegalStateException.class, () -> x.brake(0, 0));
        Check.refuses("wrong brake at the mine", IllegalArgumentException.class,
                () -> x.brake(0, 10));
        Check.refuses("no such car", IndexOutOfBoundsException.class, () -> x.brake(2, 10));
        x.release(0, 4);
        Check.due("brake(0, 9)", 4, () -> x.brake(0, 9));
        Check.due("brake(0, 0)", 9, () -> x.brake(0, 0));
        Check.due("brake now", 0, () -> x.carOf(0, 2));
        Check.refuses("brake(0, -1)", IllegalArgumentException.class, () -> x.brake(0, -1));
        Check.refuses("brake(0, 10)", IllegalArgumentException.class, () -> x.brake(0, 10));
        Check.refuses("brake(-1, 0)", IndexOutOfBoundsException.class, () -> x.brake(-1, 0));
        Check.refuses("brake(1, 0)", IllegalStateException.class, () -> x.brake(1, 0));
        Check.due("brake saves", 5, () -> x.count(9));
        x.undo();
        Check.due("brake undone", 9, () -> x.carOf(0, 2));
        x.brake(0, 0);
        x.run(24);
        Check.due("at the mill", 2, () -> x.carOf(0, 0));
        Check.refuses("brake at the mill", IllegalStateException.class, () -> x.brake(0, 0));
    }

    private static void pulling() {
        OreRailway x = new OreRailway();
        x.car();
        x.car();
        Check.refuses("pull(2)", IndexOutOfBoundsException.class, () -> x.pull(2));
        Check.refuses("pull(-1)", IndexOutOfBoundsException.class, () -> x.pull(-1));
        Check.due("throwing saves nothing", 2, () -> x.count(9));
        Check.due("pull at the mine", 1, () -> x.pull(0));
        x.release(0, 0);
        Check.due("pull of a rolling car", 1, () -> x.pull(0));
        x.run(4);
        x.release(1, 0);
        x.run(24);
        Check.due("saved so far", 6, () -> x.count(9));
        x.undo();
        x.undo();
        Check.due("saved, twice undone", 4, () -> x.count(9));
        x.pull(1);
        Check.due("a refused pull saves", 5, () -> x.count(9));
        x.undo();
        x.release(1, 0);
        x.run(24);
        Check.due("both at the mill", 3, () -> x.cars(2));
        Check.due("refusals", 2, () -> x.count(8));
        x.undo();
        x.run(24);
        Check.due("pull(0)", 0, () -> x.pull(0));
        Check.due("state", 4, () -> x.carOf(0, 0));
        Check.due("no mule is free", 0, () -> x.count(7));
        Check.due("pull again", 1, () -> x.pull(0));
        Check.due("pull(1)", 2, () -> x.pull(1));
        Check.due("refusals then", 4, () -> x.count(8));
        Check.due("saved", 6, () -> x.count(9));
        x.run(49);
        Check.due("place after 49 ticks", 6, () -> x.carOf(0, 4));
        Check.due("still pulled", 4, () -> x.carOf(0, 0));
        x.run(1);
        Check.due("place after 50 ticks", 0, () -> x.carOf(0, 4));
        Check.due("at the mine", 0, () -> x.carOf(0, 0));
        Check.due("the mule is free", 1, () -> x.count(7));
        Check.due("the other is pulled", 0, () -> x.pull(1));
        x.undo();
        Check.due("pull undone", 2, () -> x.carOf(1, 0));
    }

    private static void pullingFromRunaway() {
        OreRailway x = new OreRailway();
        x.spring(2, 5);
        x.car();
        x.load(0, 4);
        x.release(0, 0);
        x.run(5);
        Check.due("before the switch", 15, () -> x.carOf(0, 4));
        x.run(1);
        Check.due("on a runaway track", 3, () -> x.carOf(0, 0));
        x.undo();
        x.brake(0, 1);
        x.set(0, 1);
        x.run(1);
        Check.due("on a runaway track, braked", 3, () -> x.carOf(0, 0));
        Check.due("its brake stays", 1, () -> x.carOf(0, 2));
        Check.due("pull", 0, () -> x.pull(0));
        Check.due("its brake becomes 0", 0, () -> x.carOf(0, 2));
        Check.due("it keeps its ore", 4, () -> x.carOf(0, 1));
        Check.due("its place stays", 20, () -> x.carOf(0, 4));
        x.run(3);
        Check.due("place", 2, () -> x.carOf(0, 4));
        x.run(1);
        Check.due("back with its ore", 4, () -> x.carOf(0, 1));
        Check.due("back at the mine", 0, () -> x.carOf(0, 0));
        Check.due("loaded again", 9, () -> x.load(0, 5));
    }
}
