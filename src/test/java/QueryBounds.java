/** The promises 18 to 23: section, carOf, cars, rolling, count, refusal. */
final class QueryBounds {
    private static final String ALL_ROLLING = allRolling(0, 1);
    private static final String ALL_ROLLING_BACKWARD = allRolling(7, -1);
    private static final String PULLED = Rows.AT_MILL + ", pull 0";
    /** Car 1 has bumped behind car 0 three times; it is at the mine, and car 0 stands at 10. */
    private static final String BUMPED =
            "2*car, release 0 0, run 4, brake 0 9, run 1, release 1 0, run 3";

    private QueryBounds() {
    }

    static void all() {
        section();
        sectionThrows();
        carOf();
        carOfAccounts();
        carOfThrows();
        cars();
        rolling();
        count();
        countAccounts();
        countThrows();
        refusal();
        refusalReasons();
    }

    /** All eight cars are rolling, the first one farthest down. */
    private static String allRolling(int first, int step) {
        StringBuilder script = new StringBuilder(Rows.FLAT + ", grade 0 5, 8*car");
        for (int car = first; car >= 0 && car <= 7; car += step) {
            script.append(", release ").append(car).append(" 0, run 2");
        }
        return script.toString();
    }

    private static void section() {
        Doc.says("Promise 18", "Returns a number of a section.");
        Rows.due("grade 5 8", "section 5 0", 8);
        Doc.says("Promise 18", "section: 0 to 29");
        Rows.due("grade 0 8", "section 0 0", 8);
        Rows.due("grade 29 8", "section 29 0", 8);
        Doc.says("Promise 18", "what: 0 its grade");
        Rows.due("grade 7 0", "section 7 0", 0);
        Rows.due("grade 7 9", "section 7 0", 9);
        Doc.says("Promise 18", "1 the limit of its switch (0 without one)");
        Rows.due("", "section 7 1", 0);
        Rows.due("", "section 0 1", 0);
        Rows.due("spring 7 1", "section 7 1", 1);
        Rows.due("spring 7 40", "section 7 1", 40);
        Rows.due("spring 7 40", "section 6 1", 0);
        Rows.due("spring 7 40", "section 8 1", 0);
        Doc.says("Promise 18", "2 the cars that are rolling in it, as a bit mask");
        Rows.due("2*car", "section 0 2", 0);
        Rows.due("2*car, release 1 0", "section 0 2", 2);
        Rows.due("2*car, release 1 0, run 4", "section 0 2", 0);
        Rows.due("2*car, release 1 0, run 4", "section 1 2", 2);
        Rows.due(Rows.AT_MILL, "section 29 2", 0);
        Rows.due(Rows.RAN_AWAY, "section 1 2", 0);
        Rows.due(PULLED + ", run 1", "section 29 2", 0);
        Rows.due(ALL_ROLLING, "section 1 2", 128);
        Rows.due(Rows.FLAT + ", grade 0 5, 2*car, release 0 0, run 2, release 1 0, run 2, brake 0 9,"
                + " run 2, brake 1 5, run 1", "section 2 2", 2);
        Doc.says("Promise 18", "3 the cars on its runaway track, as a bit mask");
        Rows.due(Rows.RAN_AWAY, "section 1 3", 1);
        Rows.due(Rows.RAN_AWAY, "section 0 3", 0);
        Rows.due(Rows.RAN_AWAY, "section 2 3", 0);
        Rows.due(Rows.RAN_AWAY + ", spring 1 0", "section 1 3", 1);
        Rows.due(Rows.RAN_AWAY + ", pull 0", "section 1 3", 0);
        String two = Rows.RAN_AWAY + ", 2*car, release 2 1, run 4";
        Rows.due(two, "section 1 3", 5);
        Rows.due("car, spring 29 1, release 0 0, run 24", "section 29 3", 1);
        Doc.says("Promise 18", "4 how many cars ran away there so far");
        Rows.due("spring 1 1", "section 1 4", 0);
        Rows.due(Rows.RAN_AWAY, "section 1 4", 1);
        Rows.due(two, "section 1 4", 2);
        Rows.due(two + ", spring 1 0, pull 0, run 9", "section 1 4", 2);
        Rows.due(Rows.RAN_AWAY + ", pull 0, run 2, release 0 1, run 4", "section 1 4", 2);
        Rows.due(Rows.RAN_AWAY + ", undo", "section 1 4", 0);
        Doc.says("Promise 18", "Returns the number.");
        Rows.due("spring 29 1, grade 29 0", "section 29 1", 1);
    }

    private static void sectionThrows() {
        Doc.says("Promise 18", "Throws IndexOutOfBoundsException if there is no such section");
        for (int what = 0; what <= 4; what++) {
            Rows.range("", "section # " + what, 0, 29, Rows.INDEX);
        }
        Rows.due("", "section 30 5", Rows.INDEX);
        Rows.due("", "section -1 -1", Rows.INDEX);
        Doc.says("Promise 18", "Throws IllegalArgumentException if what is not 0 to 4");
        Rows.range("", "section 0 #", 0, 4, Rows.ARGUMENT);
        Rows.range("", "section 29 #", 0, 4, Rows.ARGUMENT);
    }

    private static void carOf() {
        Doc.says("Promise 19", "Returns a number of a car.");
        Rows.due("2*car, load 1 7", "carOf 1 1", 7);
        Doc.says("Promise 19", "car: its number");
        Rows.due("8*car, load 7 7", "carOf 7 1", 7);
        Rows.due("8*car, load 7 7", "carOf 0 1", 0);
        Doc.says("Promise 19", "what: 0 its state");
        Rows.due("car", "carOf 0 0", 0);
        Rows.due("car, release 0 9", "carOf 0 0", 1);
        Rows.due(Rows.AT_MILL, "carOf 0 0", 2);
        Rows.due(Rows.RAN_AWAY, "carOf 0 0", 3);
        Rows.due(PULLED, "carOf 0 0", 4);
        Doc.says("Promise 19", "1 its ore, 2 its brake, 3 its speed, 4 its place, 5 its heat");
        String down = "car, load 0 20, set 0 5, grade 0 9, release 0 2, run 3";
        int[] due = {1, 20, 2, 12, 30, 6, 2, 0, 0, 12};
        for (int what = 0; what <= 9; what++) {
            Rows.due(down, "carOf 0 " + what, due[what]);
        }
        Doc.says("Promise 19", "6 the force of its brake");
        String hot = Rows.STEEP + ", car, release 0 8, run 1, brake 0 9, run 10";
        Rows.due(hot, "carOf 0 6", 9);
        Rows.due(hot + ", run 1", "carOf 0 6", 4);
        Rows.due(hot + ", run 12", "carOf 0 6", 0);
    }

    private static void carOfAccounts() {
        Doc.says("Promise 19", "7 the ore that it delivered so far");
        Rows.due(Rows.ROLLS + ", run 23", "carOf 0 7", 0);
        Rows.due(Rows.AT_MILL, "carOf 0 7", 4);
        Rows.due("car, load 0 9, release 0 0, run 17", "carOf 0 7", 5);
        String again = PULLED + ", run 50, load 0 3, release 0 0, run 24";
        Rows.due(again, "carOf 0 7", 7);
        Rows.due(Rows.AT_MILL + ", car", "carOf 1 7", 0);
        Rows.due(Rows.RAN_AWAY, "carOf 0 7", 0);
        Doc.says("Promise 19", "8 how often it bumped so far");
        Rows.due(BUMPED, "carOf 1 8", 3);
        Rows.due(BUMPED, "carOf 0 8", 0);
        Rows.due(BUMPED + ", brake 0 0, run 24", "carOf 1 8", 3);
        Rows.due("car, release 0 0, run 60", "carOf 0 8", 0);
        Doc.says("Promise 19", "9 the greatest speed that it had so far (as it changed by the"
                + " forces, ahead of a bump)");
        Rows.due(BUMPED, "carOf 1 9", 1);
        Rows.due(BUMPED, "carOf 1 3", 0);
        Rows.due("car, release 0 9, run 9", "carOf 0 9", 0);
        Rows.due("car, release 0 0, run 9", "carOf 0 9", 9);
        Rows.due("car, release 0 0, run 9, brake 0 9, run 1", "carOf 0 9", 9);
        Rows.due("car, release 0 0, run 60", "carOf 0 9", 24);
        Rows.due(again, "carOf 0 9", 24);
        Rows.due(PULLED + ", run 50, release 0 1, run 24", "carOf 0 9", 24);
        Rows.due(Rows.STEEP + ", car, release 0 0, run 60", "carOf 0 9", 40);
        Doc.says("Promise 19", "Returns the number.");
        Rows.due(again, "carOf 0 4", 300);
    }

    private static void carOfThrows() {
        Doc.says("Promise 19", "Throws IndexOutOfBoundsException if there is no such car");
        for (int what = 0; what <= 9; what++) {
            Rows.due("", "carOf 0 " + what, Rows.INDEX);
            Rows.due("7*car", "carOf 7 " + what, Rows.INDEX);
            Rows.range("8*car", "carOf # " + what, 0, 7, Rows.INDEX);
        }
        Rows.due("", "carOf 0 10", Rows.INDEX);
        Rows.due("car", "carOf 1 10", Rows.INDEX);
        Rows.due("2*car, undo", "carOf 1 0", Rows.INDEX);
        Doc.says("Promise 19", "Throws IllegalArgumentException if what is not 0 to 9");
        Rows.range("car", "carOf 0 #", 0, 9, Rows.ARGUMENT);
        Rows.range("8*car", "carOf 7 #", 0, 9, Rows.ARGUMENT);
    }

    private static void cars() {
        Doc.says("Promise 20", "Returns the cars in a state.");
        Rows.due("3*car, release 1 0", "cars 0", 5);
        Rows.due("3*car, release 1 0", "cars 1", 2);
        Doc.says("Promise 20", "state: 0 to 4");
        Rows.due("3*car", "cars 0", 7);
        Rows.due(PULLED, "cars 4", 1);
        Doc.says("Promise 20", "Returns the cars, as a bit mask.");
        Rows.due("", "cars 0", 0);
        Rows.due(ALL_ROLLING, "cars 1", 255);
        Rows.due(ALL_ROLLING, "cars 0", 0);
        Rows.due(ALL_ROLLING + ", run 60", "cars 2", 255);
        Rows.due(ALL_ROLLING + ", spring 25 1, run 60", "cars 3", 255);
        Rows.due(ALL_ROLLING + ", run 60, pull 7", "cars 4", 128);
        Doc.says("Promise 20", "Throws IllegalArgumentException if there is no such state");
        Rows.range("", "cars #", 0, 4, Rows.ARGUMENT);
        Rows.range("8*car", "cars #", 0, 4, Rows.ARGUMENT);
    }

    private static void rolling() {
        Doc.says("Promise 21", "Returns a car that is rolling, in the order in which they move.");
        for (int rank = 0; rank <= 7; rank++) {
            Rows.due(ALL_ROLLING, "rolling " + rank, rank);
            Rows.due(ALL_ROLLING_BACKWARD, "rolling " + rank, 7 - rank);
        }
        Doc.says("Promise 21", "rank: 0 for the first one, and so on");
        Rows.due("4*car, release 2 0, run 4, release 3 0", "rolling 0", 2);
        Rows.due("4*car, release 2 0, run 4, release 3 0", "rolling 1", 3);
        Rows.due("4*car, release 3 0, run 4, release 2 0", "rolling 0", 3);
        Rows.due("4*car, release 3 0, run 4, release 2 0", "rolling 1", 2);
        Doc.says("Promise 21", "Returns its number; NONE if not so many are rolling.");
        Rows.due("", "rolling 0", -1);
        Rows.due("8*car", "rolling 0", -1);
        Rows.due("8*car, release 0 0", "rolling 0", 0);
        Rows.due("8*car, release 0 0", "rolling 1", -1);
        Rows.due("4*car, release 2 0, run 4, release 3 0", "rolling 2", -1);
        Rows.due(ALL_ROLLING, "rolling 8", -1);
        Rows.due(ALL_ROLLING, "rolling 32", -1);
        Rows.due(ALL_ROLLING, "rolling MAX", -1);
        Rows.due(Rows.AT_MILL, "rolling 0", -1);
        Rows.due(Rows.RAN_AWAY, "rolling 0", -1);
        Rows.due(PULLED, "rolling 0", -1);
        Doc.says("Promise 21", "Throws IllegalArgumentException if rank is negative");
        Rows.due("", "rolling -1", Rows.ARGUMENT);
        Rows.due("", "rolling MIN", Rows.ARGUMENT);
        Rows.due(ALL_ROLLING, "rolling -1", Rows.ARGUMENT);
    }

    private static void count() {
        Doc.says("Promise 22", "Returns a number.");
        Rows.due("run 7", "count 0", 7);
        Doc.says("Promise 22", "what: 0 the tick, 1 the cars, 2 the switches");
        Rows.due("", "count 0", 0);
        Rows.due("run 60, run 60", "count 0", 120);
        Rows.due("", "count 1", 0);
        Rows.due("8*car", "count 1", 8);
        Rows.due("", "count 2", 0);
        Rows.due("spring 1 1, spring 2 40, spring 28 2, spring 29 3", "count 2", 4);
        Rows.due("spring 1 1, spring 1 2, spring 1 0", "count 2", 0);
        Doc.says("Promise 22", "6 the ore in all cars");
        Rows.due("8*car", "count 6", 0);
        Rows.due("2*car, load 0 20, load 1 3", "count 6", 23);
        Rows.due(Rows.ROLLS + ", run 23", "count 6", 4);
        Rows.due(Rows.AT_MILL, "count 6", 0);
        Rows.due(Rows.RAN_AWAY, "count 6", 4);
        Rows.due(Rows.RAN_AWAY + ", pull 0", "count 6", 4);
        Doc.says("Promise 22", "7 the mules that are free (at least 0)");
        Rows.due("set 2 4", "count 7", 4);
        Rows.due("set 2 0", "count 7", 0);
        Rows.due(PULLED, "count 7", 0);
        Rows.due(PULLED + ", set 2 0", "count 7", 0);
        Rows.due(PULLED + ", set 2 2", "count 7", 1);
        Doc.says("Promise 22", "9 the number of saved states, 10 the length of the buffer");
        Rows.due("", "count 9", 0);
        Rows.due("6*run 1", "count 9", 6);
        Rows.due("7*run 1", "count 9", 6);
        Rows.due("7*run 1, undo", "count 9", 5);
        Rows.due("", "count 10", 0);
        Rows.due("type " + "x".repeat(60), "count 10", 60);
        Doc.says("Promise 22", "11 to 13 the settings 0 to 2");
        Rows.due("set 0 5, set 1 20, set 2 4", "count 11", 5);
        Rows.due("set 0 5, set 1 20, set 2 4", "count 12", 20);
        Rows.due("set 0 5, set 1 20, set 2 4", "count 13", 4);
        Doc.says("Promise 22", "Returns the number.");
        Rows.due("set 2 0", "count 13", 0);
    }

    private static void countAccounts() {
        Doc.says("Promise 22", "3 the ore that was loaded so far, 4 the ore that was delivered so"
                + " far, 5 the ore that was spilled so far");
        Rows.due("car", "count 3", 0);
        Rows.due("2*car, load 0 20, load 1 1, load 1 2", "count 3", 23);
        Rows.due("car, load 0 9, release 0 0, run 16", "count 4", 0);
        String spilled = "car, load 0 9, release 0 0, run 17";
        Rows.due(spilled, "count 3", 9);
        Rows.due(spilled, "count 4", 5);
        Rows.due(spilled, "count 5", 4);
        String twice = spilled + ", pull 0, run 50, load 0 8, release 0 0, run 17";
        Rows.due(twice, "count 3", 17);
        Rows.due(twice, "count 4", 9);
        Rows.due(twice, "count 5", 8);
        Rows.due(Rows.RAN_AWAY, "count 4", 0);
        Rows.due(Rows.RAN_AWAY, "count 5", 0);
        Doc.says("Promise 22", "8 the refusals so far (of release() and pull())");
        Rows.due("car", "count 8", 0);
        Rows.due("car, release 0 0", "count 8", 0);
        Rows.due("car, release 0 0, release 0 0", "count 8", 1);
        Rows.due("car, pull 0, release 0 0, release 0 0", "count 8", 2);
        Rows.due("car, refusal 0 false, release 0 0, refusal 0 true", "count 8", 0);
        Rows.due("car, type m0, execute, type r0/0;r0/0, execute", "count 8", 2);
    }

    private static void countThrows() {
        Doc.says("Promise 22", "Throws IllegalArgumentException if what is not 0 to 13");
        Rows.range("", "count #", 0, 13, Rows.ARGUMENT);
        Rows.range("8*car", "count #", 0, 13, Rows.ARGUMENT);
    }

    private static void refusal() {
        Doc.says("Promise 23", "Tells why a release or pulling would be refused.");
        Rows.due("car, release 0 0", "refusal 0 true", 1);
        Rows.due("car", "refusal 0 false", 1);
        Doc.says("Promise 23", "car: its number");
        Rows.range("8*car", "refusal # true", 0, 7, Rows.INDEX);
        Doc.says("Promise 23", "release: true for a release, false for pulling");
        Rows.due("car", "refusal 0 true", 0);
        Rows.due(Rows.AT_MILL, "refusal 0 true", 1);
        Rows.due(Rows.AT_MILL, "refusal 0 false", 0);
        Doc.says("Promise 23", "Throws IndexOutOfBoundsException if there is no such car");
        for (String release : new String[] {"true", "false"}) {
            Rows.due("", "refusal 0 " + release, Rows.INDEX);
            Rows.range("8*car", "refusal # " + release, 0, 7, Rows.INDEX);
            Rows.due("7*car", "refusal 7 " + release, Rows.INDEX);
        }
    }

    private static void refusalReasons() {
        Doc.says("Promise 23", "Returns the reason, 1 or 2; 0 if it would not be refused.");
        String at9 = "2*car, grade 0 5, release 0 0, run 2";
        Rows.due(at9, "refusal 0 true", 1);
        Rows.due(at9, "refusal 1 true", 2);
        Rows.due("2*car, release 0 0, run 4", "refusal 1 true", 0);
        for (String script : new String[] {"car, release 0 0", Rows.AT_MILL, Rows.RAN_AWAY,
            PULLED}) {
            Rows.due(script, "refusal 0 true", 1);
        }
        for (String script : new String[] {"car", "car, release 0 0", PULLED, PULLED + ", run 49",
            PULLED + ", run 50", "car, set 2 0"}) {
            Rows.due(script, "refusal 0 false", 1);
        }
        Rows.due(Rows.RAN_AWAY, "refusal 0 false", 0);
        Rows.due(Rows.RAN_AWAY + ", set 2 0", "refusal 0 false", 2);
        Rows.due(Rows.AT_MILL + ", set 2 0", "refusal 0 false", 2);
        Rows.due(PULLED + ", run 50", "refusal 0 true", 0);
    }
}
