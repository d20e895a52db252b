/** Promises 11 to 14: append, clearBuffer, firstError, execute. */
public final class OrderTextTest {
    public static void main(String[] args) {
        appending();
        errors();
        completeTexts();
        executing();
        stopping();
        everyOrder();
        Check.end();
    }

    private static void appending() {
        OreRailway x = new OreRailway();
        Check.refuses("append(32)", IllegalArgumentException.class, () -> x.append(32));
        Check.refuses("append(127)", IllegalArgumentException.class, () -> x.append(127));
        Check.refuses("append(65646)", IllegalArgumentException.class, () -> x.append(65646));
        Check.refuses("append(-1)", IllegalArgumentException.class, () -> x.append(-1));
        Check.due("length", 0, () -> x.count(10));
        Check.due("append(33)", 1, () -> x.append(33));
        Check.due("append(126)", 2, () -> x.append(126));
        for (int length = 3; length <= 60; length++) {
            Check.due("append", length, () -> x.append('n'));
        }
        Check.refuses("append to 60", IllegalStateException.class, () -> x.append('n'));
        Check.refuses("append(32) to 60", IllegalArgumentException.class, () -> x.append(32));
        Check.due("length", 60, () -> x.count(10));
        Check.due("nothing is saved", 0, () -> x.count(9));
        Check.due("clearBuffer", 60, x::clearBuffer);
        Check.due("clearBuffer again", 0, x::clearBuffer);
        Check.due("length", 0, () -> x.count(10));
        Check.due("append after clearing", 1, () -> x.append('n'));
        Check.due("firstError after clearing", 1, x::firstError);
        Check.due("nothing is saved then", 0, () -> x.count(9));
        x.car();
        x.append('x');
        x.undo();
        Check.due("undo leaves the buffer", 2, () -> x.count(10));
        x.keep(0);
        x.clearBuffer();
        x.goBack(0);
        Check.due("goBack leaves the buffer", 0, () -> x.count(10));
    }

    private static void error(String text, int index) {
        OreRailway x = new OreRailway();
        Check.type(x, text);
        Check.due("firstError of " + text, index, x::firstError);
        Check.due("firstError keeps " + text, text.length(), () -> x.count(10));
    }

    private static void errors() {
        error("", 0);
        error("n", 1);
        error("n;", 2);
        error("nn", 1);
        error("n1", 1);
        error(";", 0);
        error("n;;", 2);
        error("N", 0);
        error("x", 0);
        error("l", 1);
        error("l7", 2);
        error("l8", 1);
        error("l0/", 2);
        error("l0+", 3);
        error("l0+0", 3);
        error("l0+;", 3);
        error("l0+1", 4);
        error("l0+10", 5);
        error("l0+19;", 6);
        error("l0+190", 5);
        error("l0+2", 4);
        error("l0+20", 5);
        error("l0+21", 4);
        error("l0+200", 5);
        error("l0+3", 4);
        error("l0+30", 4);
        error("l0+9;n", 6);
        error("l0+01", 3);
        error("r7/9", 4);
        error("r8/9", 1);
        error("r7+9", 2);
        error("r7/99", 4);
        error("r7/;", 3);
        error("b0/0;", 5);
        error("b00", 2);
        error("b0/x", 3);
        error("b/", 1);
        error("m7", 2);
        error("m8", 1);
        error("m;", 1);
        error("m77", 2);
        error("t", 1);
        error("t0", 1);
        error("t1", 2);
        error("t59", 3);
        error("t60", 3);
        error("t61", 2);
        error("t600", 3);
        error("t7", 2);
        error("t70", 2);
        error("t5;t", 4);
        error("t5:", 2);
        error("t100", 3);
        error("n;l0+15;r0/3;t5;x;;", 16);
    }

    private static void complete(String text, boolean complete) {
        OreRailway x = new OreRailway();
        Check.type(x, text);
        if (complete) {
            x.execute();
            Check.due("emptied " + text, 0, () -> x.count(10));
            Check.due("saved " + text, 1, () -> x.count(9));
        } else {
            Check.refuses("execute " + text, IllegalArgumentException.class, x::execute);
            Check.due("kept " + text, text.length(), () -> x.count(10));
            Check.due("not saved " + text, 0, () -> x.count(9));
            Check.due("nothing done " + text, 0, () -> x.count(0) + x.count(1));
        }
    }

    private static void completeTexts() {
        String[] whole = {"n", "n;n", "l0+1", "l0+2", "l0+20", "l0+12", "r0/0", "b7/9", "m0",
            "t1", "t6", "t60", "t9;n", "n;l0+9;t33"};
        for (String text : whole) {
            complete(text, true);
        }
        String[] part = {"", "n;", "n;l", "n;l0", "n;l0+", "r", "r0", "r0/", "b0/", "m", "t",
            "n;x", "t61", "t0", "n;;n", ";n"};
        for (String text : part) {
            complete(text, false);
        }
    }

    private static void executing() {
        OreRailway x = new OreRailway();
        Check.type(x, "n;n;l0+15;r0/3;t5;r1/0;t9");
        Check.due("seven orders", 7, x::execute);
        Check.due("tick", 14, () -> x.count(0));
        Check.due("one state is saved", 1, () -> x.count(9));
        Check.due("cleared", 0, () -> x.count(10));
        Check.due("brake", 3, () -> x.carOf(0, 2));
        Check.due("place", 105, () -> x.carOf(0, 4));
        Check.due("place of 1", 45, () -> x.carOf(1, 4));
        Check.due("undo", 0, x::undo);
        Check.due("all is undone", 0, () -> x.count(0) + x.count(1) + x.count(3));
        Check.type(x, "n;n;n;n;n;n;n;n;t60;t60;t60;t60;t60;t60;t60;t60;t60;t60;t60;");
        Check.due("full", 60, () -> x.count(10));
        Check.refuses("not complete", IllegalArgumentException.class, x::execute);
        x.clearBuffer();
        Check.type(x, "n;n;n;n;n;n;n;n;n;t60");
        Check.due("eight cars", 8, x::execute);
        Check.due("cars", 8, () -> x.count(1));
        Check.due("no tick", 0, () -> x.count(0));
    }

    private static void stops(String text, int executed, int refusals) {
        OreRailway x = new OreRailway();
        x.car();
        Check.type(x, text);
        Check.due("orders of " + text, executed, x::execute);
        Check.due("refusals of " + text, refusals, () -> x.count(8));
        Check.due("saved by " + text, 2, () -> x.count(9));
        Check.due("cleared of " + text, 0, () -> x.count(10));
        Check.due("ticks of " + text, 0, () -> x.count(0));
        x.undo();
        Check.due("refusals undone of " + text, 0, () -> x.count(8));
    }

    private static void stopping() {
        stops("l1+5;t5", 0, 0);
        stops("l0+15;l0+6;t5", 1, 0);
        stops("r1/0;t5", 0, 0);
        stops("r0/0;r0/0;t5", 1, 1);
        stops("n;r0/0;r1/0;t5", 2, 1);
        stops("r0/0;l0+1;t5", 1, 0);
        stops("b0/0;t5", 0, 0);
        stops("b1/0;t5", 0, 0);
        stops("m0;t5", 0, 1);
        stops("m1;t5", 0, 0);
        stops("m0;m0;m0;t5", 0, 1);
    }

    private static void everyOrder() {
        OreRailway x = new OreRailway();
        x.set(2, 4);
        Check.type(x, "n;l0+4;r0/9;b0/0;b0/0;b0/1;b0/0;t24;m0;t60;r0/7");
        Check.due("eleven orders", 11, x::execute);
        Check.due("delivered", 4, () -> x.carOf(0, 7));
        Check.due("rolling again", 1, () -> x.carOf(0, 0));
        Check.due("brake", 7, () -> x.carOf(0, 2));
        Check.due("tick", 84, () -> x.count(0));
        OreRailway y = new OreRailway();
        Check.type(y, "n;l0+1;l0+12;l0+7;n");
        Check.due("five orders", 5, y::execute);
        Check.due("ore", 20, () -> y.carOf(0, 1));
    }
}
