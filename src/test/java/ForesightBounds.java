/** The promises 24 to 27: ifAlone, leastBrake, ifRun, meanSpeed. */
final class ForesightBounds {
    /** With brake 1, a car with less than 5 of ore takes just 200 ticks. */
    private static final String IN_200 = track(2, 1, 3, 0, 0, 0, 2, 0, 1, 1, 1, 1, 1, 1, 1, 3, 2);
    /** With brake 1, it takes 201. */
    private static final String IN_201 = track(3, 1, 5, 0, 0, 0, 3, 1, 0, 1, 0, 0, 1, 1, 1, 1, 1,
            1, 1, 1);
    private static final String PULLED = Rows.AT_MILL + ", pull 0";
    /** Car 0 is hot, was fast and delivered; car 1 stands in the way. */
    private static final String OTHERS = "2*car, load 0 9, release 0 0, run 17, pull 0, run 50,"
            + " load 0 15, release 0 2, run 9, release 1 0, run 4, brake 1 9, run 1";
    /** Car 0 stands at the place 10, and car 1 bumps into it in each tick. */
    private static final String BUMPING =
            "2*car, release 0 0, run 4, brake 0 9, run 1, release 1 0, run 3";

    private ForesightBounds() {
    }

    static void all() {
        alone();
        aloneStates();
        aloneNumbers();
        aloneThrows();
        leastBrake();
        leastBrakeThrows();
        ifRun();
        ifRunBumpsAndRolling();
        ifRunThrows();
        meanSpeed();
    }

    private static String track(int... grades) {
        StringBuilder script = new StringBuilder("set 0 0");
        for (int section = 0; section < 30; section++) {
            script.append(", grade ").append(section).append(' ');
            script.append(section < grades.length ? grades[section] : 0);
        }
        return script.toString();
    }

    private static void answers(String script, String arguments, int... due) {
        for (int what = 0; what <= 4; what++) {
            Rows.due(script, "ifAlone " + arguments + " " + what, due[what]);
        }
    }

    private static void alone() {
        Doc.says("Promise 24", "Tells how a car alone on the track would come down");
        answers("", "0 0", 2, 24, 0, 300, 24);
        answers("", "4 0", 2, 24, 4, 300, 24);
        answers(OTHERS, "4 0", 2, 24, 4, 300, 24);
        answers(BUMPING, "4 0", 2, 24, 4, 300, 24);
        answers("8*car, 8*pull 0, run 60", "4 0", 2, 24, 4, 300, 24);
        Doc.says("Promise 24", "with the brake as it is all the time");
        // The speed grows by 1 until the heat is 104, and by 5 then.
        answers(Rows.STEEP, "0 8", 2, 20, 0, 300, 40);
        answers(Rows.STEEP, "0 9", 1, 200, 0, 0, 0);
        Doc.says("Promise 24", "without heat at the beginning.");
        String hot = Rows.STEEP + ", car, release 0 8, run 1, brake 0 9, run 22";
        Rows.due(hot, "carOf 0 5", 200);
        answers(hot, "0 8", 2, 20, 0, 300, 40);
        answers(hot + ", set 1 20, pull 0, run 15", "0 9", 1, 200, 0, 0, 0);
    }

    private static void aloneStates() {
        Doc.says("Promise 24", "what: 0 the state in which it would end: 2 at the mill, 3 on a"
                + " runaway track, 1 if it is still rolling after 200 ticks");
        Rows.due("", "ifAlone 4 0 0", 2);
        Rows.due("spring 29 23", "ifAlone 4 0 0", 3);
        Rows.due("spring 29 24", "ifAlone 4 0 0", 2);
        Rows.due("", "ifAlone 4 9 0", 1);
        Rows.due(IN_200, "ifAlone 4 1 0", 2);
        Rows.due(IN_201, "ifAlone 4 1 0", 1);
        Doc.says("Promise 24", "1 the number of ticks (200 if it is still rolling)");
        Rows.due("", "ifAlone 4 0 1", 24);
        Rows.due("spring 1 3", "ifAlone 4 0 1", 4);
        Rows.due("", "ifAlone 4 9 1", 200);
        Rows.due(IN_200, "ifAlone 4 1 1", 200);
        Rows.due(IN_201, "ifAlone 4 1 1", 200);
        Rows.due("run 60", "ifAlone 4 0 1", 24);
    }

    private static void aloneNumbers() {
        Doc.says("Promise 24", "2 the ore that it would deliver");
        Rows.due("", "ifAlone 0 0 2", 0);
        Rows.due("", "ifAlone 4 0 2", 4);
        Rows.due("", "ifAlone 9 0 2", 5);
        Rows.due("spring 29 1", "ifAlone 4 0 2", 0);
        Rows.due(IN_200, "ifAlone 4 1 2", 4);
        Rows.due(IN_201, "ifAlone 4 1 2", 0);
        Doc.says("Promise 24", "3 its place then");
        Rows.due("", "ifAlone 4 0 3", 300);
        Rows.due("spring 11 14", "ifAlone 4 0 3", 110);
        Rows.due("", "ifAlone 4 9 3", 0);
        answers(Rows.FLAT + ", grade 0 2", "4 1", 1, 200, 0, 16, 4);
        Doc.says("Promise 24", "4 its greatest speed");
        Rows.due("", "ifAlone 4 0 4", 24);
        Rows.due("spring 11 14", "ifAlone 4 0 4", 15);
        Rows.due("", "ifAlone 4 9 4", 0);
        Rows.due(Rows.STEEP, "ifAlone 20 0 4", 40);
        Doc.says("Promise 24", "Returns the number.");
        answers("spring 11 14", "4 0", 3, 15, 0, 110, 15);
        answers("spring 11 15", "4 0", 2, 24, 4, 300, 24);
    }

    private static void aloneThrows() {
        Doc.says("Promise 24", "ore: 0 to 20");
        Rows.range("", "ifAlone # 0 0", 0, 20, Rows.ARGUMENT);
        Rows.due("", "ifAlone 20 0 2", 10);
        Rows.due("", "ifAlone 0 0 2", 0);
        Doc.says("Promise 24", "brake: 0 to 9");
        Rows.range("", "ifAlone 0 # 0", 0, 9, Rows.ARGUMENT);
        Doc.says("Promise 24", "Throws IllegalArgumentException if an argument is out of range");
        Rows.range("8*car", "ifAlone # 9 4", 0, 20, Rows.ARGUMENT);
        Rows.range("8*car", "ifAlone 20 # 4", 0, 9, Rows.ARGUMENT);
        Rows.range("", "ifAlone 20 9 #", 0, 4, Rows.ARGUMENT);
        Rows.range("", "ifAlone 0 0 #", 0, 4, Rows.ARGUMENT);
        Rows.due("", "ifAlone 21 10 5", Rows.ARGUMENT);
    }

    private static void leastBrake() {
        Doc.says("Promise 25", "Finds the least brake with which a car alone would bring all its"
                + " ore to the mill within 200 ticks.");
        Rows.due("", "leastBrake 4", 0);
        // With 5 of ore and no brake the speed at the mill is 34, with brake 1 it is 24.
        Rows.due("", "leastBrake 5", 1);
        Rows.due("", "leastBrake 9", 1);
        Rows.due("", "leastBrake 10", 2);
        Rows.due("", "leastBrake 20", 4);
        Rows.due(OTHERS, "leastBrake 5", 1);
        Rows.due(BUMPING, "leastBrake 4", 0);
        // No half of 1 can be spilled, and nothing of 0.
        Rows.due(Rows.STEEP, "leastBrake 0", 0);
        Rows.due(Rows.STEEP, "leastBrake 1", 0);
        Rows.due(Rows.STEEP, "leastBrake 2", -1);
        // Without brake it runs away; with brake 1 it takes 200 ticks, or 201.
        Rows.due(IN_200 + ", spring 29 8", "leastBrake 4", 1);
        Rows.due(IN_201 + ", spring 29 8", "leastBrake 4", -1);
        Doc.says("Promise 25", "ore: 0 to 20");
        Rows.due("", "leastBrake 0", 0);
        Rows.due("", "leastBrake 20", 4);
        Doc.says("Promise 25", "Returns the brake, 0 to 9; NONE if there is none.");
        // Brake 9 comes to the section 1 with the speed 4, the others are faster than 5.
        String nine = "grades 3, grade 0 9, grade 1 8, grade 2 8, grade 3 8, set 0 0, spring 1 5";
        Rows.due(nine, "leastBrake 5", 9);
        Rows.due(nine, "ifAlone 5 8 0", 3);
        Rows.due(nine + ", spring 1 3", "leastBrake 5", -1);
        Rows.due("set 0 3", "leastBrake 0", -1);
        Rows.due("spring 1 1", "leastBrake 4", -1);
        Rows.due("spring 29 1", "leastBrake 0", -1);
    }

    private static void leastBrakeThrows() {
        Doc.says("Promise 25", "Throws IllegalArgumentException if ore is out of range");
        Rows.range("", "leastBrake #", 0, 20, Rows.ARGUMENT);
        Rows.range("8*car", "leastBrake #", 0, 20, Rows.ARGUMENT);
    }

    private static void ifRun() {
        Doc.says("Promise 26", "Tells what would be after some ticks, if nothing else was done.");
        Rows.due(Rows.ROLLS, "ifRun 24 4", 0);
        Rows.due(Rows.ROLLS, "ifRun 23 4", 1);
        Rows.due(PULLED, "ifRun 200 4", 0);
        Doc.says("Promise 26", "ticks: 1 to 200");
        Rows.due(Rows.ROLLS + ", run 23", "ifRun 1 0", 4);
        Rows.due(Rows.ROLLS + ", run 22", "ifRun 1 0", 0);
        Rows.due(IN_200 + ", car, load 0 4, release 0 1", "ifRun 199 0", 0);
        Rows.due(IN_200 + ", car, load 0 4, release 0 1", "ifRun 200 0", 4);
        Doc.says("Promise 26", "what: 0 the ore that would be delivered in them, 1 the ore that"
                + " would be spilled in them");
        String spilling = "2*car, load 0 9, load 1 3, release 0 0";
        Rows.due(spilling, "ifRun 16 0", 0);
        Rows.due(spilling, "ifRun 17 0", 5);
        Rows.due(spilling, "ifRun 200 0", 5);
        Rows.due(spilling, "ifRun 16 1", 0);
        Rows.due(spilling, "ifRun 17 1", 4);
        Rows.due(spilling + ", run 17", "ifRun 200 0", 0);
        Rows.due(spilling + ", run 17", "ifRun 200 1", 0);
        Rows.due(spilling + ", run 17, release 1 0", "ifRun 200 0", 3);
        Doc.says("Promise 26", "2 the cars that would be on runaway tracks, as a bit mask");
        Rows.due("2*car, spring 1 3, release 1 0", "ifRun 3 2", 0);
        Rows.due("2*car, spring 1 3, release 1 0", "ifRun 4 2", 2);
        Rows.due(Rows.RAN_AWAY, "ifRun 1 2", 1);
        Rows.due(Rows.RAN_AWAY + ", pull 0", "ifRun 1 2", 0);
        Rows.due(Rows.RAN_AWAY + ", car, release 1 1", "ifRun 200 2", 3);
        Doc.says("Promise 26", "Returns the number.");
        Rows.due("", "ifRun 200 0", 0);
    }

    private static void ifRunBumpsAndRolling() {
        Doc.says("Promise 26", "3 the bumps in them");
        Rows.due(BUMPING, "carOf 1 8", 3);
        Rows.due(BUMPING, "ifRun 1 3", 1);
        Rows.due(BUMPING, "ifRun 200 3", 200);
        Rows.due(BUMPING + ", brake 0 0", "ifRun 200 3", 0);
        Rows.due("2*car, release 1 0, run 4, brake 1 9, run 1, release 0 0", "ifRun 3 3", 3);
        // Two cars bump, the third one into the second one.
        Rows.due("3*car, release 0 0, run 7, brake 0 9, run 1, release 1 0, run 7, release 2 0,"
                + " run 1", "ifRun 9 3", 16);
        Doc.says("Promise 26", "4 the cars that would be rolling, as a bit mask");
        Rows.due(BUMPING, "ifRun 200 4", 3);
        Rows.due(BUMPING + ", brake 0 0", "ifRun 23 4", 3);
        Rows.due("3*car, release 2 0", "ifRun 23 4", 4);
        Rows.due("3*car, release 2 0", "ifRun 24 4", 0);
        Rows.due("3*car", "ifRun 200 4", 0);
        Rows.due("car, spring 1 3, release 0 0", "ifRun 4 4", 0);
    }

    private static void ifRunThrows() {
        Doc.says("Promise 26", "Throws IllegalArgumentException if ticks is out of range, or what"
                + " is not 0 to 4");
        Rows.range("", "ifRun # 0", 1, 200, Rows.ARGUMENT);
        Rows.range(Rows.ROLLS, "ifRun # 4", 1, 200, Rows.ARGUMENT);
        Rows.range("", "ifRun 1 #", 0, 4, Rows.ARGUMENT);
        Rows.range(Rows.ROLLS, "ifRun 200 #", 0, 4, Rows.ARGUMENT);
        Rows.due("", "ifRun 0 5", Rows.ARGUMENT);
    }

    private static void meanSpeed() {
        Doc.says("Promise 27", "Returns the mean speed of the cars that are rolling.");
        Rows.due("3*car, release 0 0, run 4", "meanSpeed", "4.0");
        Rows.due("car, release 0 9, run 4", "meanSpeed", "0.0");
        Doc.says("Promise 27", "Returns the sum of their speeds as a float, divided by their number"
                + " as a float");
        String two = "3*car, release 0 0, run 4, release 1 0";
        Rows.due(two, "meanSpeed", "2.0");
        Rows.due(two + ", run 4", "meanSpeed", "6.0");
        Rows.due(two + ", run 5, release 2 0", "meanSpeed", "4.6666665");
        Rows.due("2*car, release 0 0, run 5, release 1 0", "meanSpeed", "2.5");
        Doc.says("Promise 27", "0.0f if none is rolling.");
        Rows.due("", "meanSpeed", "0.0");
        Rows.due("8*car", "meanSpeed", "0.0");
        Rows.due(Rows.AT_MILL, "meanSpeed", "0.0");
        Rows.due(Rows.RAN_AWAY, "meanSpeed", "0.0");
        Rows.due(PULLED + ", run 1", "meanSpeed", "0.0");
    }
}
