/** Order text, and the promises 11 to 14: append, clearBuffer, firstError, execute. */
final class OrderTextBounds {
    private static final String FIFTY_NINE = "type " + "n;".repeat(29) + "n";
    private static final String SIXTY = "type " + "n;".repeat(30);

    private OrderTextBounds() {
    }

    static void all() {
        buffer();
        grammar();
        orders();
        numbers();
        append();
        clearBuffer();
        firstError();
        execute();
        executeStops();
        executeThrows();
    }

    private static void error(String text, int index) {
        Rows.due("type " + text, "firstError", index);
    }

    /** The text has no error, and can be executed if it is complete. */
    private static void text(String text, boolean complete) {
        error(text, text.length());
        String got = Script.call(Script.played(Script.calls("type " + text)), "execute");
        Check.holds(Doc.quoted() + ": execute of " + text + " answered " + got,
                complete != got.equals(Rows.ARGUMENT));
    }

    private static void buffer() {
        Doc.says("Order text", "The buffer holds at most 60 characters.");
        Rows.due(FIFTY_NINE, "append 59", 60);
        Rows.due(SIXTY, "append 110", Rows.STATE);
        Rows.due(SIXTY, "count 10", 60);
        Doc.says("Order text", "It is empty at first.");
        Rows.due("", "count 10", 0);
        Rows.due("", "clearBuffer", 0);
    }

    private static void grammar() {
        Doc.says("Order text", "An order text is one or more orders with ';' between them.");
        text("n", true);
        text("n;n", true);
        text("n;", false);
        error(";", 0);
        error("n;;", 2);
        error("nn", 1);
        error("n,n", 1);
        text("n" + ";n".repeat(29), true);
        Rows.due("", "execute", Rows.ARGUMENT);
        Doc.says("Order text", "An order is: 'n' (as car())");
        error("N", 0);
        error("o", 0);
        error("n0", 1);
        for (int code = 33; code <= 126; code++) {
            Rows.due("append " + code, "firstError", "nlrbmt".indexOf(code) >= 0 ? 1 : 0);
        }
        Rows.due("type n", "execute", 1);
        Rows.due("type n, execute", "count 1", 1);
    }

    private static void orders() {
        Doc.says("Order text", "or 'l', a car, '+', and a number from 1 to 20 (as load())");
        text("l0+1", true);
        text("l0+20", true);
        error("l0/", 2);
        error("l0+0", 3);
        error("l0+21", 4);
        Rows.due("type n;l0+1, execute", "carOf 0 1", 1);
        Rows.due("type n;l0+20, execute", "carOf 0 1", 20);
        Doc.says("Order text", "or 'r', a car, '/', and a brake (as release())");
        text("r0/0", true);
        error("r0+", 2);
        Rows.due("type n;r0/9, execute", "carOf 0 0", 1);
        Rows.due("type n;r0/9, execute", "carOf 0 2", 9);
        Doc.says("Order text", "or 'b', a car, '/', and a brake (as brake())");
        text("b0/0", true);
        error("b0+", 2);
        Rows.due("type n;r0/9;b0/4, execute", "carOf 0 2", 4);
        Doc.says("Order text", "or 'm' and a car (as pull())");
        text("m0", true);
        error("m+", 1);
        error("m0/", 2);
        Rows.due("type n;r0/0;t24;m0, execute", "carOf 0 0", 4);
        Doc.says("Order text", "or 't' and a number from 1 to 60 (as run()).");
        text("t1", true);
        text("t60", true);
        error("t0", 1);
        error("t61", 2);
        Rows.due("type t1, execute", "count 0", 1);
        Rows.due("type t60, execute", "count 0", 60);
        Doc.says("Order text", "A car is a digit from 0 to 7");
        for (String letter : new String[] {"l", "r", "b", "m"}) {
            for (int car = 0; car <= 7; car++) {
                text(letter + car, letter.equals("m"));
            }
            error(letter + "8", 1);
            error(letter + "9", 1);
            error(letter + "/", 1);
            error(letter + ":", 1);
            error(letter + "00", 2);
            text(letter, false);
        }
        Doc.says("Order text", "a brake a digit from 0 to 9.");
        for (String letter : new String[] {"r", "b"}) {
            for (int brake = 0; brake <= 9; brake++) {
                text(letter + "7/" + brake, true);
                error(letter + "7/" + brake + "0", 4);
            }
            error(letter + "7//", 3);
            error(letter + "7/:", 3);
            text(letter + "7/", false);
        }
    }

    private static void numbers() {
        Doc.says("Order text", "a number from 1 to 20");
        for (int ore = 1; ore <= 99; ore++) {
            if (ore <= 20) {
                text("l7+" + ore, true);
            } else {
                error("l7+" + ore, 4);
            }
        }
        for (int ore = 10; ore <= 20; ore++) {
            error("l7+" + ore + "0", 5);
        }
        Doc.says("Order text", "a number from 1 to 60");
        for (int ticks = 1; ticks <= 99; ticks++) {
            if (ticks <= 60) {
                text("t" + ticks, true);
            } else {
                error("t" + ticks, 2);
            }
        }
        for (int ticks = 10; ticks <= 60; ticks++) {
            error("t" + ticks + "0", 3);
        }
        Doc.says("Order text", "Numbers have no leading zeros.");
        error("l0+0", 3);
        error("l0+01", 3);
        error("l0+001", 3);
        error("t0", 1);
        error("t01", 1);
        error("t060", 1);
        Doc.says("Order text", "The first error of the buffer is the index of the first character"
                + " that no order text can have after the characters before it.");
        error("xx", 0);
        error("nxx", 1);
        error("n;xx", 2);
        error("l0+2;x", 5);
        error("l0+20x", 5);
        error("t6x", 2);
        error("t6/", 2);
        error("t6:", 2);
        error("l0+/", 3);
        error("l0+:", 3);
        error("l0+1/", 4);
        error("l0+1:", 4);
        error("l0+2/", 4);
        error("l0+2:", 4);
        error("l0+3/", 4);
        error("t/", 1);
        error("t:", 1);
        error("t5/", 2);
        error("t5:", 2);
        error("t7:", 2);
        Rows.due(FIFTY_NINE + ", append 110", "firstError", 59);
        Rows.due(FIFTY_NINE + ", append 59", "firstError", 60);
    }

    private static void append() {
        Doc.says("Promise 11", "Appends a character to the buffer.");
        Rows.due("type n", "count 10", 1);
        Rows.due("type n;t7, execute", "count 0", 7);
        Doc.says("Promise 11", "code: a character code, 33 to 126");
        Rows.due("", "append 33", 1);
        Rows.due("", "append 126", 1);
        Doc.says("Promise 11", "Returns the new length of the buffer.");
        for (int length = 1; length <= 60; length++) {
            Rows.due(length == 1 ? "" : "type " + "x".repeat(length - 1), "append 120", length);
        }
        Doc.says("Promise 11", "Throws IllegalArgumentException if code is out of range");
        Rows.range("", "append #", 33, 126, Rows.ARGUMENT);
        Rows.due("type n", "append 32", Rows.ARGUMENT);
        Rows.due("type n", "append 127", Rows.ARGUMENT);
        // The lower bits of this one are those of 'n'.
        Rows.due("", "append 65646", Rows.ARGUMENT);
        Rows.due("", "append -65426", Rows.ARGUMENT);
        Doc.says("Promise 11", "Throws IllegalStateException if the buffer holds 60 characters");
        Rows.due(SIXTY, "append 33", Rows.STATE);
        Rows.due(SIXTY, "append 126", Rows.STATE);
        Rows.due(SIXTY, "append 32", Rows.ARGUMENT);
        Rows.due(SIXTY, "append 127", Rows.ARGUMENT);
        Rows.due(SIXTY + ", clearBuffer", "append 110", 1);
    }

    private static void clearBuffer() {
        Doc.says("Promise 12", "Clears the buffer.");
        Rows.due("type x, clearBuffer", "count 10", 0);
        Rows.due("type x, clearBuffer", "firstError", 0);
        Rows.due("type n, clearBuffer", "execute", Rows.ARGUMENT);
        Rows.due("type x, clearBuffer, type n, execute", "count 1", 1);
        Doc.says("Promise 12", "Returns the length that it had.");
        Rows.due("", "clearBuffer", 0);
        Rows.due("type x", "clearBuffer", 1);
        Rows.due(FIFTY_NINE, "clearBuffer", 59);
        Rows.due(SIXTY, "clearBuffer", 60);
        Rows.due(SIXTY + ", clearBuffer", "clearBuffer", 0);
    }

    private static void firstError() {
        Doc.says("Promise 13", "Finds the first error of the buffer.");
        Rows.due("type n;l0+1x", "firstError", 6);
        Doc.says("Promise 13", "Returns its index; the length of the buffer if there is no error"
                + " (also if the text is not complete).");
        Rows.due("", "firstError", 0);
        Rows.due("type x", "firstError", 0);
        Rows.due("type n", "firstError", 1);
        Rows.due("type n;", "firstError", 2);
        Rows.due("type n;l", "firstError", 3);
        Rows.due("type n;l0", "firstError", 4);
        Rows.due("type n;l0+", "firstError", 5);
        Rows.due("type n;l0+1", "firstError", 6);
        Rows.due("type t", "firstError", 1);
        Rows.due("type r0/", "firstError", 3);
        Rows.due(FIFTY_NINE, "firstError", 59);
        Rows.due(SIXTY, "firstError", 60);
        Rows.due("type " + "x".repeat(60), "firstError", 0);
    }

    private static void execute() {
        Doc.says("Promise 14", "Executes the orders in the buffer, one after the other");
        Rows.sameState("type n;n;l0+9;r0/1;t5;b0/0;r1/2;t60;m0;t3, execute",
                "2*car, load 0 9, release 0 1, run 5, brake 0 0, release 1 2, run 60, pull 0,"
                        + " run 3");
        Rows.due("type n;l0+20;r0/9, execute", "carOf 0 1", 20);
        Rows.due("type n;l0+9;l0+10;l0+1, execute", "carOf 0 1", 20);
        Rows.due("type t1;t60;t9;t10, execute", "count 0", 80);
        Doc.says("Promise 14", "and clears the buffer.");
        Rows.due("type n, execute", "count 10", 0);
        Rows.due("type n, execute", "execute", Rows.ARGUMENT);
        Rows.due("type m0;n, execute", "count 10", 0);
        Rows.due("type n, execute, type t2, execute", "count 1", 1);
        Doc.says("Promise 14", "Undoable, as one call.");
        Rows.due("type n;n;t5, execute", "count 9", 1);
        Rows.due("type n;n;t5, execute, undo", "count 1", 0);
        Rows.due("type n;n;t5, execute, undo", "count 0", 0);
        Rows.due("type n;n;t5, execute, undo", "count 10", 0);
        Rows.due("type m0, execute", "count 9", 1);
        Rows.due("car, type m0, execute, undo", "count 8", 0);
        Doc.says("Promise 14", "Returns how many orders are executed (one that is refused is not"
                + " counted here, but in count() of 8).");
        Rows.due("type n", "execute", 1);
        Rows.due("type n;n;t5", "execute", 3);
        Rows.due("type n" + ";n".repeat(29), "execute", 8);
        Rows.due("type t1" + ";t1".repeat(19), "execute", 20);
        Rows.due("car, type m0", "execute", 0);
        Rows.due("car, type m0, execute", "count 8", 1);
        Rows.due("car, type t1;r0/0;r0/0", "execute", 2);
        Rows.due("car, type t1;r0/0;r0/0, execute", "count 8", 1);
    }

    /** The orders up to the last one but for "t9" are executed, and this one is not. */
    private static void stops(String script, String orders, int executed, int refusals) {
        String typed = (script.isEmpty() ? "" : script + ", ") + "type " + orders + ";t9";
        Rows.due(typed, "execute", executed);
        Rows.due(typed + ", execute", "count 8", refusals);
        Rows.due(typed + ", execute", "count 10", 0);
        int before = Script.played(Script.calls(script)).count(0);
        Rows.due(typed + ", execute", "count 0", before);
    }

    private static void executeStops() {
        Doc.says("Promise 14", "up to the first one that is refused");
        stops("car, release 0 0", "r0/0", 0, 1);
        stops("2*car", "r0/0;r1/0", 1, 1);
        stops("car", "m0", 0, 1);
        stops(Rows.AT_MILL, "m0;m0", 1, 1);
        stops(Rows.AT_MILL + ", set 2 0", "m0", 0, 1);
        stops("car", "m0;m0;r0/0", 0, 1);
        Doc.says("Promise 14", "or whose method would throw an exception");
        stops("8*car", "n", 0, 0);
        stops("7*car", "n;n;n", 1, 0);
        stops("", "l0+1", 0, 0);
        stops("", "r0/0", 0, 0);
        stops("", "b0/0", 0, 0);
        stops("", "m0", 0, 0);
        stops("7*car", "l6+1;l7+1", 1, 0);
        stops("7*car", "r7/0", 0, 0);
        stops("7*car", "b7/0", 0, 0);
        stops("7*car", "m7", 0, 0);
        stops("car", "l0+20;l0+1", 1, 0);
        stops("car", "l0+19;l0+2", 1, 0);
        stops("car", "r0/0;l0+1", 1, 0);
        stops("car", "b0/0", 0, 0);
        stops(Rows.AT_MILL, "b0/0", 0, 0);
        Rows.due("7*car, type n;l7+20;r7/9;b7/0;t5", "execute", 5);
    }

    private static void executeThrows() {
        Doc.says("Promise 14", "Throws IllegalArgumentException if the buffer is not a complete"
                + " order text");
        String[] texts = {"x", ";", "n;", "n;;n", "l", "l0", "l0+", "l0+0", "l0+21", "r0", "r0/",
            "b", "b0/", "m", "m8", "t", "t0", "t61", "n;t5;", "n;t", "t5;x", "N", "n;n1"};
        Rows.due("", "execute", Rows.ARGUMENT);
        for (String text : texts) {
            Rows.due("type " + text, "execute", Rows.ARGUMENT);
        }
        Rows.due(SIXTY, "execute", Rows.ARGUMENT);
        Rows.due(FIFTY_NINE, "execute", 8);
        // Appended to its end, a text that was not complete can be executed.
        Rows.due("type n;l0+1", "execute", 2);
        Rows.due("type t6, append 48", "execute", 1);
        Rows.due("type t6, append 48, execute", "count 0", 60);
    }
}
