/** Promises 18 to 23: section, carOf, cars, rolling, count, refusal. */
public final class QueriesTest {
    public static void main(String[] args) {
        severalCars();
        accounts();
        refusals();
        Check.end();
    }

    private static void severalCars() {
        OreRailway x = new OreRailway();
        for (int car = 0; car < 6; car++) {
            x.car();
        }
        x.release(3, 0);
        x.run(4);
        x.release(1, 0);
        x.run(4);
        x.release(5, 0);
        x.run(1);
        Check.due("places", 45, () -> x.carOf(3, 4));
        Check.due("place of 1", 15, () -> x.carOf(1, 4));
        Check.due("place of 5", 1, () -> x.carOf(5, 4));
        Check.due("first", 3, () -> x.rolling(0));
        Check.due("second", 1, () -> x.rolling(1));
        Check.due("third", 5, () -> x.rolling(2));
        Check.due("no fourth", OreRailway.NONE, () -> x.rolling(3));
        Check.due("at the mine", 0b010101, () -> x.cars(0));
        Check.due("rolling", 0b101010, () -> x.cars(1));
        Check.due("in section 4", 0b001000, () -> x.section(4, 2));
        Check.due("in section 1", 0b000010, () -> x.section(1, 2));
        Check.due("in section 0, without the mine", 0b100000, () -> x.section(0, 2));
        Check.due("in section 2", 0, () -> x.section(2, 2));
        x.spring(5, 1);
        x.run(1);
        Check.due("on runaway tracks", 0b001000, () -> x.cars(3));
        Check.due("on the one of section 5", 0b001000, () -> x.section(5, 3));
        Check.due("first then", 1, () -> x.rolling(0));
        x.pull(3);
        Check.due("pulled", 0b001000, () -> x.cars(4));
        x.spring(5, 0);
        x.run(40);
        Check.due("at the mill", 0b100010, () -> x.cars(2));
        Check.due("none is rolling", OreRailway.NONE, () -> x.rolling(0));
    }

    private static void accounts() {
        OreRailway x = new OreRailway();
        x.set(2, 2);
        x.car();
        x.car();
        x.load(0, 9);
        x.load(1, 3);
        x.release(0, 0);
        // With 9 of ore the places are 2, 6, 12, .. and the speed at the end is 34.
        Check.due("17 ticks", 5, () -> x.run(17));
        x.release(1, 0);
        Check.due("24 ticks", 3, () -> x.run(24));
        Check.due("loaded", 12, () -> x.count(3));
        Check.due("delivered", 8, () -> x.count(4));
        Check.due("spilled", 4, () -> x.count(5));
        Check.due("in cars", 0, () -> x.count(6));
        Check.due("by car 0", 5, () -> x.carOf(0, 7));
        Check.due("by car 1", 3, () -> x.carOf(1, 7));
        x.pull(0);
        x.run(50);
        x.load(0, 2);
        x.release(0, 0);
        x.run(24);
        Check.due("delivered twice", 7, () -> x.carOf(0, 7));
        Check.due("greatest speed of both ways", 34, () -> x.carOf(0, 9));
        Check.due("cars", 2, () -> x.count(1));
        Check.due("tick", 115, () -> x.count(0));
        Check.due("free mules", 2, () -> x.count(7));
    }

    private static void refusals() {
        OreRailway x = new OreRailway();
        x.car();
        x.car();
        Check.due("release", 0, () -> x.refusal(0, true));
        Check.due("pulling", 1, () -> x.refusal(0, false));
        x.release(0, 0);
        Check.due("release of a rolling car", 1, () -> x.refusal(0, true));
        Check.due("release behind it", 2, () -> x.refusal(1, true));
        Check.due("no refusal is counted", 0, () -> x.count(8));
        x.run(24);
        Check.due("release at the mill", 1, () -> x.refusal(0, true));
        Check.due("pulling from the mill", 0, () -> x.refusal(0, false));
        x.set(2, 0);
        Check.due("without mules", 2, () -> x.refusal(0, false));
        Check.due("first reason first", 1, () -> x.refusal(1, false));
        x.set(2, 1);
        x.pull(0);
        Check.due("pulling a pulled car", 1, () -> x.refusal(0, false));
        Check.due("releasing a pulled car", 1, () -> x.refusal(0, true));
    }
}
