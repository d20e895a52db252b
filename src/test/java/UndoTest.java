/** Promises 15 to 17: undo, keep, goBack. */
public final class UndoTest {
    public static void main(String[] args) {
        undoing();
        droppingTheOldest();
        snapshots();
        Check.end();
    }

    private static void undoing() {
        OreRailway x = new OreRailway();
        Check.refuses("undo of nothing", IllegalStateException.class, x::undo);
        x.car();
        x.load(0, 5);
        x.run(3);
        Check.due("undo", 2, x::undo);
        Check.due("tick", 0, () -> x.count(0));
        Check.due("ore stays", 5, () -> x.carOf(0, 1));
        Check.due("undo again", 1, x::undo);
        Check.due("ore", 0, () -> x.carOf(0, 1));
        Check.due("undo of car", 0, x::undo);
        Check.refuses("no car", IndexOutOfBoundsException.class, () -> x.carOf(0, 0));
        Check.refuses("no more", IllegalStateException.class, x::undo);
        Check.due("nothing saved", 0, () -> x.count(9));
    }

    private static void droppingTheOldest() {
        OreRailway x = new OreRailway();
        for (int tick = 1; tick <= 10; tick++) {
            x.run(tick);
            int saved = Math.min(6, tick);
            Check.due("saved", saved, () -> x.count(9));
        }
        int[] ticks = {45, 36, 28, 21, 15, 10};
        for (int i = 0; i < 6; i++) {
            int left = 5 - i;
            int tick = ticks[i];
            Check.due("undo", left, x::undo);
            Check.due("tick", tick, () -> x.count(0));
        }
        Check.refuses("the oldest are dropped", IllegalStateException.class, x::undo);
        x.run(7);
        Check.due("saved anew", 1, () -> x.count(9));
        Check.due("undone anew", 0, x::undo);
        Check.due("tick then", 10, () -> x.count(0));
    }

    private static void snapshots() {
        OreRailway x = new OreRailway();
        Check.refuses("keep(2)", IllegalArgumentException.class, () -> x.keep(2));
        Check.refuses("keep(-1)", IllegalArgumentException.class, () -> x.keep(-1));
        Check.refuses("goBack(2)", IllegalArgumentException.class, () -> x.goBack(2));
        Check.refuses("goBack(-1)", IllegalArgumentException.class, () -> x.goBack(-1));
        Check.refuses("goBack to nothing", IllegalStateException.class, () -> x.goBack(1));
        Check.due("nothing saved", 0, () -> x.count(9));
        x.run(5);
        Check.due("keep(1)", 5, () -> x.keep(1));
        Check.due("keep saves nothing", 1, () -> x.count(9));
        Check.refuses("the other slot is empty", IllegalStateException.class, () -> x.goBack(0));
        x.run(6);
        Check.due("keep(0)", 11, () -> x.keep(0));
        Check.due("goBack(1)", 5, () -> x.goBack(1));
        Check.due("tick", 5, () -> x.count(0));
        Check.due("goBack saves", 3, () -> x.count(9));
        x.run(1);
        Check.due("it stays in its slot", 5, () -> x.goBack(1));
        Check.due("goBack(0)", 11, () -> x.goBack(0));
        Check.due("undo of goBack", 5, x::undo);
        Check.due("tick before", 5, () -> x.count(0));
        x.run(2);
        Check.due("keep again", 7, () -> x.keep(1));
        x.run(1);
        Check.due("replaced", 7, () -> x.goBack(1));
        for (int i = 0; i < 6; i++) {
            x.undo();
        }
        Check.refuses("no more", IllegalStateException.class, x::undo);
        Check.due("undo leaves the snapshots", 7, () -> x.goBack(1));
    }
}
