/** The life of an object, Undo and snapshots, Exceptions, and the promises 15 to 17. */
final class UndoBounds {
    /** A bit of all that belongs to the state. */
    private static final String BUSY = "set 2 2, 3*car, load 0 9, release 0 1, run 60, pull 0,"
            + " run 5, spring 12 1, load 1 8, release 1 0, run 20, pull 2, grade 17 5, load 2 5,"
            + " release 2 1, run 7";
    /** Changes each part of it. */
    private static final String CHANGES = "set 2 3, set 0 1, set 1 9, grade 4 9, spring 12 0,"
            + " spring 9 40, brake 2 0, run 50, pull 1, car, load 3 20, release 3 0, release 3 0,"
            + " run 60";

    private UndoBounds() {
    }

    static void all() {
        life();
        state();
        stateOfEachKind();
        whoSaves();
        atMostSix();
        slots();
        exceptions();
        exceptionsInOrder();
        undo();
        keep();
        goBack();
    }

    /** "An object is used for at most 512 calls after it has been made." */
    private static void life() {
        OreRailway x = new OreRailway();
        for (int call = 1; call <= 510; call++) {
            x.run(60);
        }
        Check.due("call 511", 60 * 510, () -> x.count(0));
        Check.due("call 512", 5, x::undo);
    }

    private static void state() {
        Doc.says("Undo and snapshots", "The state consists of everything except the buffer");
        Rows.due("car, type n;n, undo", "count 10", 3);
        Rows.due("keep 0, type n, goBack 0", "count 10", 1);
        Rows.due("type n, keep 0, clearBuffer, goBack 0", "count 10", 0);
        Rows.due("car, type n, clearBuffer, undo", "count 10", 0);
        Doc.says("Undo and snapshots", "the saved states");
        Rows.due("2*car, keep 0, 2*undo, goBack 0", "count 9", 1);
        Rows.due("keep 0, 3*car, goBack 0", "count 9", 4);
        Rows.due("keep 0, 3*car, goBack 0, undo", "count 9", 3);
        Doc.says("Undo and snapshots", "and the snapshots.");
        Rows.due("car, keep 0, undo", "goBack 0", 0);
        Rows.due("car, keep 0, undo, goBack 0", "count 1", 1);
        Rows.due("keep 0, car, keep 1, goBack 0, goBack 1", "count 1", 1);
    }

    private static void stateOfEachKind() {
        Doc.says("Undo and snapshots", "The state consists of everything");
        Rows.otherState(BUSY, BUSY + ", " + CHANGES);
        Rows.sameState(BUSY, BUSY + ", keep 1, " + CHANGES + ", goBack 1");
        Rows.sameState(BUSY, "keep 0, " + BUSY + ", keep 1, goBack 0, 8*car, run 9,"
                + " goBack 1");
        Rows.sameState("", BUSY.replace("set 2 2", "keep 0, set 2 2") + ", goBack 0");
        Rows.sameState(BUSY + ", " + CHANGES, BUSY + ", keep 1, " + CHANGES + ", goBack 1, undo");
        for (String call : CHANGES.split(", ")) {
            String before = BUSY + ", " + CHANGES.substring(0, CHANGES.indexOf(call));
            String script = before.substring(0, before.length() - 2);
            Rows.otherState(script, script + ", " + call);
            Rows.sameState(script, script + ", " + call + ", undo");
            Rows.sameState(script, script + ", keep 0, " + call + ", goBack 0");
        }
    }

    private static void whoSaves() {
        Doc.says("Undo and snapshots", "Each method that is marked 'Undoable' saves the state from"
                + " before the call");
        String[][] undoable = {{"run 1", "grade 4 9"}, {"run 1", "spring 1 5"}, {"run 1", "car"},
            {"car", "load 0 1"}, {"car", "release 0 0"}, {"car, release 0 0", "brake 0 9"},
            {Rows.AT_MILL, "pull 0"}, {"run 1", "set 0 0"}, {"run 1", "run 1"},
            {"run 1, type n;n", "execute"}, {"run 1, keep 0", "goBack 0"}};
        for (String[] row : undoable) {
            int before = Script.played(Script.calls(row[0])).count(9);
            Rows.due(row[0] + ", " + row[1], "count 9", before + 1);
            Rows.due(row[0] + ", " + row[1], "undo", before);
            Rows.sameState(row[0], row[0] + ", " + row[1] + ", undo");
        }
        Doc.says("Undo and snapshots", "if it does not throw an exception");
        String[] throwing = {"grade 30 0", "spring 0 1", "load 0 21", "release 1 0", "brake 0 0",
            "pull 1", "set 3 0", "run 0", "execute", "goBack 0"};
        for (String call : throwing) {
            String answer = Script.call(Script.played(Script.calls("car")), call);
            Check.holds(Doc.quoted() + ": " + call + " answered " + answer,
                    answer.endsWith("Exception"));
            Rows.due("car", call, answer);
        }
        Doc.says("Undo and snapshots", "even if nothing changes.");
        String[] idle = {"grade 0 3", "spring 1 0", "spring 2 7", "set 0 2", "set 1 6", "set 2 1",
            "brake 0 4", "goBack 0"};
        String script = "spring 2 7, car, release 0 4, keep 0";
        for (String call : idle) {
            Rows.sameState(script, script + ", " + call);
            Rows.due(script + ", " + call, "count 9", 4);
        }
        Rows.sameState("type b0/0", "type b0/0, execute");
        Rows.due("type b0/0, execute", "count 9", 1);
        // The other methods save nothing.
        String[] others = {"append 110", "clearBuffer", "firstError", "keep 0", "section 0 0",
            "carOf 0 0", "cars 0", "rolling 0", "count 0", "refusal 0 true", "ifAlone 0 0 0",
            "leastBrake 0", "ifRun 1 0", "meanSpeed"};
        for (String call : others) {
            Rows.due("car, " + call, "count 9", 1);
        }
    }

    private static void atMostSix() {
        Doc.says("Undo and snapshots", "At most 6 states are saved");
        for (int calls = 1; calls <= 8; calls++) {
            Rows.due(calls + "*run 1", "count 9", Math.min(6, calls));
            Rows.due(calls + "*run 1", "undo", Math.min(6, calls) - 1);
        }
        Rows.due("6*run 1, 6*undo", "undo", Rows.STATE);
        Rows.due("7*run 1, 6*undo", "undo", Rows.STATE);
        Rows.due("40*run 1, 6*undo", "undo", Rows.STATE);
        Doc.says("Undo and snapshots", "when one more is saved, the oldest one is dropped.");
        Rows.due("6*run 1, 6*undo", "count 0", 0);
        Rows.due("7*run 1, 6*undo", "count 0", 1);
        Rows.due("8*run 1, 6*undo", "count 0", 2);
        Rows.due("13*run 1, 6*undo", "count 0", 7);
        Rows.due("7*run 1, 3*undo, 4*run 10, 6*undo", "count 0", 2);
        for (int depth = 1; depth <= 6; depth++) {
            Rows.due("9*run 1, " + depth + "*undo", "count 0", 9 - depth);
        }
    }

    private static void slots() {
        Doc.says("Undo and snapshots", "There are two snapshot slots");
        Rows.due("run 1, keep 0, run 2, keep 1, run 4", "goBack 0", 1);
        Rows.due("run 1, keep 0, run 2, keep 1, run 4", "goBack 1", 3);
        Rows.range("", "keep #", 0, 1, Rows.ARGUMENT);
        Doc.says("Undo and snapshots", "which are empty at first.");
        Rows.due("", "goBack 0", Rows.STATE);
        Rows.due("", "goBack 1", Rows.STATE);
        Rows.due("keep 0", "goBack 1", Rows.STATE);
        Rows.due("keep 1", "goBack 0", Rows.STATE);
    }

    private static void exceptions() {
        Doc.says("Exceptions", "A call that throws an exception changes nothing.");
        String full = BUSY + ", spring 1 40, spring 2 40, spring 3 40, 5*car, keep 0, type n;l0+2;";
        String[] throwing = {"grade 30 0", "grade 0 10", "spring 0 0", "spring 1 41", "spring 4 1",
            "car", "load 8 1", "load 3 21", "load 2 1", "release 8 0", "release 3 10", "brake 8 0",
            "brake 2 10", "brake 3 0", "pull 8", "set 3 0", "set 1 21", "run 61", "append 32",
            "execute", "keep 2", "goBack 2", "goBack 1", "section 30 0", "section 0 5", "carOf 8 0",
            "carOf 0 10", "cars 5", "rolling -1", "count 14", "refusal 8 true", "ifAlone 21 0 0",
            "leastBrake 21", "ifRun 201 0"};
        for (String call : throwing) {
            String answer = Script.call(Script.played(Script.calls(full)), call);
            Check.holds(Doc.quoted() + ": " + call + " answered " + answer,
                    answer.endsWith("Exception"));
            Rows.due(full, call, answer);
        }
        Rows.due("type " + "n".repeat(60), "append 110", Rows.STATE);
        Rows.due("keep 0, type n", "undo", Rows.STATE);
        Doc.says("Exceptions", "NONE = -1: There is no such number.");
        Check.due("NONE", -1, () -> OreRailway.NONE);
        Rows.due("", "rolling 0", -1);
        Rows.due("set 0 5", "leastBrake 0", -1);
    }

    private static void exceptionsInOrder() {
        Doc.says("Exceptions", "If more than one exception applies to a call, the one that its"
                + " throws clause lists first is thrown.");
        String springs = "spring 1 1, spring 2 1, spring 3 1, spring 4 1";
        String text = "type " + "n".repeat(60);
        String[][] rows = {{"", "grade 30 10", Rows.INDEX}, {"", "grade -1 -1", Rows.INDEX},
            {"", "spring 0 41", Rows.INDEX}, {"", "spring 30 -1", Rows.INDEX},
            {springs, "spring 0 1", Rows.INDEX}, {springs, "spring 30 41", Rows.INDEX},
            {springs, "spring 5 41", Rows.ARGUMENT}, {springs, "spring 5 -1", Rows.ARGUMENT},
            {"", "load 0 0", Rows.INDEX}, {"", "load -1 21", Rows.INDEX},
            {"car, load 0 20", "load 0 21", Rows.ARGUMENT},
            {"car, release 0 0", "load 0 0", Rows.ARGUMENT},
            {"", "release 0 10", Rows.INDEX}, {"", "release -1 -1", Rows.INDEX},
            {"", "brake 0 10", Rows.INDEX}, {"car", "brake 0 10", Rows.ARGUMENT},
            {"car", "brake 0 -1", Rows.ARGUMENT}, {"", "set 3 99", Rows.INDEX},
            {"", "set -1 -1", Rows.INDEX}, {text, "append 32", Rows.ARGUMENT},
            {text, "append 127", Rows.ARGUMENT}, {"", "goBack 2", Rows.ARGUMENT},
            {"", "goBack -1", Rows.ARGUMENT}, {"", "section 30 5", Rows.INDEX},
            {"", "section -1 -1", Rows.INDEX}, {"", "carOf 0 10", Rows.INDEX},
            {"", "carOf -1 -1", Rows.INDEX}};
        for (String[] row : rows) {
            Rows.due(row[0], row[1], row[2]);
        }
    }

    private static void undo() {
        Doc.says("Promise 15", "Restores the state that was saved last, and removes it from the"
                + " saved states.");
        Rows.due("run 1, run 2, undo", "count 0", 1);
        Rows.due("run 1, run 2, undo", "count 9", 1);
        Rows.due("run 1, run 2, 2*undo", "count 0", 0);
        Rows.due("run 1, run 2, undo, run 4, undo", "count 0", 1);
        // There is no way forward again.
        Rows.due("run 1, undo", "undo", Rows.STATE);
        Rows.due("run 1, keep 0, goBack 0, undo", "count 0", 1);
        Doc.says("Promise 15", "Returns the number of saved states that are left.");
        for (int left = 0; left < 6; left++) {
            Rows.due((left + 1) + "*run 1", "undo", left);
        }
        Rows.due("7*run 1", "undo", 5);
        Doc.says("Promise 15", "Throws IllegalStateException if no state is saved");
        Rows.due("", "undo", Rows.STATE);
        Rows.due("type n, keep 0, keep 1", "undo", Rows.STATE);
        Rows.due("3*car, 3*undo", "undo", Rows.STATE);
        Rows.due("3*car, 2*undo", "undo", 0);
    }

    private static void keep() {
        Doc.says("Promise 16", "Takes a snapshot of the state, which replaces the one in the slot.");
        Rows.due("run 1, keep 0, run 2, keep 0, run 4", "goBack 0", 3);
        Rows.due("run 1, keep 1, run 2, keep 1, run 4", "goBack 1", 3);
        Rows.due("run 1, keep 0, run 2, keep 1, run 4, keep 1", "goBack 0", 1);
        Rows.due("keep 0", "count 9", 0);
        Doc.says("Promise 16", "slot: 0 or 1");
        Rows.due("", "keep 0", 0);
        Rows.due("", "keep 1", 0);
        Doc.says("Promise 16", "Returns the number of the tick.");
        Rows.due("run 60", "keep 0", 60);
        Rows.due("run 60, undo", "keep 1", 0);
        Doc.says("Promise 16", "Throws IllegalArgumentException if there is no such slot");
        Rows.range("", "keep #", 0, 1, Rows.ARGUMENT);
        Rows.range("run 1, keep 0, keep 1, run 1", "keep #", 0, 1, Rows.ARGUMENT);
    }

    private static void goBack() {
        Doc.says("Promise 17", "Restores a snapshot, which stays in its slot.");
        Rows.due("run 1, keep 0, run 2, goBack 0", "count 0", 1);
        Rows.due("run 1, keep 0, run 2, goBack 0, run 4", "goBack 0", 1);
        Rows.due("run 1, keep 0, run 2, goBack 0, run 4, grade 0 0, goBack 0", "section 0 0", 3);
        Doc.says("Promise 17", "Undoable.");
        Rows.due("run 1, keep 0, run 2, goBack 0", "count 9", 3);
        Rows.due("run 1, keep 0, run 2, goBack 0, undo", "count 0", 3);
        Rows.due("keep 0, goBack 0", "count 9", 1);
        Doc.says("Promise 17", "slot: 0 or 1");
        Rows.due("run 3, keep 0", "goBack 0", 3);
        Rows.due("run 3, keep 1", "goBack 1", 3);
        Doc.says("Promise 17", "Returns the number of the tick after the call.");
        Rows.due("keep 0, run 60", "goBack 0", 0);
        Rows.due("run 60, keep 0, undo", "goBack 0", 60);
        Doc.says("Promise 17", "Throws IllegalArgumentException if there is no such slot");
        Rows.range("keep 0, keep 1", "goBack #", 0, 1, Rows.ARGUMENT);
        Rows.due("", "goBack 2", Rows.ARGUMENT);
        Rows.due("", "goBack -1", Rows.ARGUMENT);
        Doc.says("Promise 17", "Throws IllegalStateException if the slot is empty");
        Rows.due("run 1", "goBack 0", Rows.STATE);
        Rows.due("run 1", "goBack 1", Rows.STATE);
        Rows.due("run 1, keep 1", "goBack 0", Rows.STATE);
        Rows.due("run 1, keep 0", "goBack 1", Rows.STATE);
        // Undo takes no snapshot out of its slot.
        Rows.due("run 1, keep 0, undo", "goBack 0", 1);
    }
}
