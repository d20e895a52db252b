/** Promises 15 to 17: undo, keep, goBack. */
public final class UndoTest {
    public static void main(String[] args) {
        undoing();
        droppingTheOldest();
        snapshots();
        wholeState();
        Check.end();
    }

    private static void undoing() {
        OreRailway x = new OreRailway();
        Check.refuses("undo of nothing", IllegalStateException.class, x::undo);
        x.car();
        x.load(0, 5);
        x.run(3);
        Check.due("undo", 2, x::undo);
        Check.due("tick", 0, () -> x.count(0));
        Check.due("ore stays", 5, () -> x.carOf(0, 1));
        Check.due("undo again", 1, x::undo);
        Check.due("ore", 0, () -> x.carOf(0, 1));
        Check.due("undo of car", 0, x::undo);
        Check.refuses("no car", IndexOutOfBoundsException.class, () -> x.carOf(0, 0));
        Check.refuses("no more", IllegalStateException.class, x::undo);
        Check.due("nothing saved", 0, () -> x.count(9));
    }

    private static void droppingTheOldest() {
        OreRailway x = new OreRailway();
        for (int tick = 1; tick <= 10; tick++) {
            x.run(tick);
            int saved = Math.min(6, tick);
            Check.due("saved", saved, () -> x.count(9));
        }
        int[] ticks = {45, 36, 28, 21, 15, 10};
        for (int i = 0; i < 6; i++) {
            int left = 5 - i;
            int tick = ticks[i];
            Check.due("undo", left, x::undo);
            Check.due("tick", tick, () -> x.count(0));
        }
        Check.refuses("the oldest are dropped", IllegalStateException.class, x::undo);
        x.run(7);
        Check.due("saved anew", 1, () -> x.count(9));
        Check.due("undone anew", 0, x::undo);
        Check.due("tick then", 10, () -> x.count(0));
    }

    private static void snapshots() {
        OreRailway x = new OreRailway();
        Check.refuses("keep(2)", IllegalArgumentException.class, () -> x.keep(2));
        Check.refuses("keep(-1)", IllegalArgumentException.class, () -> x.keep(-1));
        Check.refuses("goBack(2)", IllegalArgumentException.class, () -> x.goBack(2));
        Check.refuses("goBack(-1)", IllegalArgumentException.class, () -> x.goBack(-1));
        Check.refuses("goBack to nothing", IllegalStateException.class, () -> x.goBack(1));
        Check.due("nothing saved", 0, () -> x.count(9));
        x.run(5);
        Check.due("keep(1)", 5, () -> x.keep(1));
        Check.due("keep saves nothing", 1, () -> x.count(9));
        Check.refuses("the other slot is empty", IllegalStateException.class, () -> x.goBack(0));
        x.run(6);
        Check.due("keep(0)", 11, () -> x.keep(0));
        Check.due("goBack(1)", 5, () -> x.goBack(1));
        Check.due("tick", 5, () -> x.count(0));
        Check.due("goBack saves", 3, () -> x.count(9));
        x.run(1);
        Check.due("it stays in its slot", 5, () -> x.goBack(1));
        Check.due("goBack(0)", 11, () -> x.goBack(0));
        Check.due("undo of goBack", 5, x::undo);
        Check.due("tick before", 5, () -> x.count(0));
        x.run(2);
        Check.due("keep again", 7, () -> x.keep(1));
        x.run(1);
        Check.due("replaced", 7, () -> x.goBack(1));
        for (int i = 0; i < 6; i++) {
            x.undo();
        }
        Check.refuses("no more", IllegalStateException.class, x::undo);
        Check.due("undo leaves the snapshots", 7, () -> x.goBack(1));
    }

    /** Everything but the buffer, the saved states and the snapshots comes back. */
    private static void wholeState() {
        OreRailway x = new OreRailway();
        String fresh = Check.stateOf(x);
        x.keep(1);
        Check.type(x, "n;n;n;l0+9;r0/1;t60;m0;t5;l1+8;r1/1;t9;l2+5;r2/1;t5");
        Check.due("fourteen orders", 14, x::execute);
        x.spring(12, 1);
        x.run(1);
        String before = Check.stateOf(x);
        Check.due("delivered", 9, () -> x.carOf(0, 7));
        Check.due("car 0 is pulled", 4, () -> x.carOf(0, 0));
        Check.due("car 1 ran away", 1, () -> x.section(12, 4));
        Check.holds("car 2 is rolling and warm",
                x.carOf(2, 0) == 1 && x.carOf(2, 3) > 0 && x.carOf(2, 5) > 0);
        x.keep(0);
        change(x);
        Check.holds("it has changed", !before.equals(Check.stateOf(x)));
        for (int i = 0; i < 6; i++) {
            x.undo();
        }
        Check.holds("undo restores all", before.equals(Check.stateOf(x)));
        x.goBack(1);
        Check.holds("the first snapshot has nothing of it", fresh.equals(Check.stateOf(x)));
        x.goBack(0);
        Check.holds("goBack restores all", before.equals(Check.stateOf(x)));
        x.undo();
        Check.holds("undo of goBack", fresh.equals(Check.stateOf(x)));
        x.undo();
        Check.holds("undo of the first goBack", before.equals(Check.stateOf(x)));
    }

    /** Six calls that are saved. */
    private static void change(OreRailway x) {
        x.grade(4, 9);
        x.spring(12, 0);
        x.set(0, 1);
        x.run(60);
        Check.type(x, "l0+5;r0/0;n;l3+20;t60;m1;t60");
        x.execute();
        x.run(60);
        Check.due("car 0 delivered more", 12, () -> x.carOf(0, 7));
    }
}
