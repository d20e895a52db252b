/** Cars, Mules, Refusals, and the promises 4 to 8: car, load, release, brake, pull. */
final class CarsBounds {
    private static final String ROLLING = Rows.ROLLS + ", run 1";
    private static final String PULLED = Rows.AT_MILL + ", pull 0";
    /** One tick before the mule is at the mine. */
    private static final String NEARLY_BACK = PULLED + ", run 49";
    /** The speed 1 at the place 11 and the heat 98; a brake of 9 keeps the speed. */
    private static final String HEAT_98 =
            Rows.STEEP + ", car, release 0 8, run 1, brake 0 9, run 10";
    /** At the place 279 with the speed 40, on the way to the mill. */
    private static final String HEAT_197 = HEAT_98 + ", run 11";
    private static final String FIVE_AT_MILL = "5*car, release 0 0, run 4, release 1 0, run 4,"
            + " release 2 0, run 4, release 3 0, run 4, release 4 0, run 60";

    private CarsBounds() {
    }

    static void all() {
        cars();
        carsBegin();
        force();
        mules();
        refusalsOfRelease();
        refusalsOfPull();
        car();
        load();
        loadThrows();
        release();
        releaseRefused();
        brake();
        brakeThrows();
        pull();
        pullRefused();
    }

    private static void cars() {
        Doc.says("Cars", "There are at most 8 cars");
        Rows.due("7*car", "car", 7);
        Rows.due("8*car", "car", Rows.STATE);
        Rows.due("8*car", "count 1", 8);
        Doc.says("Cars", "numbered from 0 in the order in which they came.");
        Rows.due("", "car", 0);
        Rows.due("car", "car", 1);
        Rows.due("3*car, undo", "car", 2);
        Doc.says("Cars", "A car has ore from 0 to 20");
        Rows.due("car", "carOf 0 1", 0);
        Rows.due("car, load 0 20", "carOf 0 1", 20);
        Rows.due("car, load 0 20", "load 0 1", Rows.STATE);
        Doc.says("Cars", "a brake from 0 to 9");
        Rows.due("car, release 0 0", "carOf 0 2", 0);
        Rows.due("car, release 0 9", "carOf 0 2", 9);
        Rows.due("car", "release 0 10", Rows.ARGUMENT);
        Doc.says("Cars", "a speed from 0 to 40");
        Rows.due("car, release 0 9, run 1", "carOf 0 3", 0);
        Rows.due("grades 8, set 0 0, car, release 0 0, run 5", "carOf 0 3", 40);
        Rows.due("grades 8, set 0 0, car, release 0 0, run 6", "carOf 0 3", 40);
        Doc.says("Cars", "a heat from 0 to 200");
        Rows.due(HEAT_197 + ", brake 0 2, run 1", "carOf 0 5", 199);
        Rows.due(HEAT_197 + ", brake 0 3, run 1", "carOf 0 5", 200);
        Rows.due(HEAT_197 + ", brake 0 4, run 1", "carOf 0 5", 200);
        Doc.says("Cars", "a state: 0 at the mine, 1 rolling, 2 at the mill, 3 on a runaway track,"
                + " 4 pulled by a mule.");
        String[] scripts = {"car", ROLLING, Rows.AT_MILL, Rows.RAN_AWAY, PULLED};
        for (int state = 0; state < scripts.length; state++) {
            for (int other = 0; other < scripts.length; other++) {
                Rows.due(scripts[state], "cars " + other, other == state ? 1 : 0);
            }
            Rows.due(scripts[state], "carOf 0 0", state);
        }
    }

    private static void carsBegin() {
        Doc.says("Cars", "At first it is at the mine (at the place 0), and everything else is 0.");
        for (int what = 0; what <= 9; what++) {
            Rows.due("car", "carOf 0 " + what, 0);
            Rows.due(FIVE_AT_MILL + ", 3*car", "carOf 7 " + what, 0);
            Rows.due(Rows.RAN_AWAY + ", 5*undo, car", "carOf 0 " + what, 0);
        }
    }

    private static void force() {
        Doc.says("Cars", "The force of the brake of a car is its brake, if its heat is at most 100");
        String at100 = HEAT_98 + ", brake 0 2, run 1";
        Rows.due(at100, "carOf 0 5", 100);
        Rows.due(at100, "carOf 0 6", 2);
        Rows.due(at100 + ", brake 0 9", "carOf 0 6", 9);
        Rows.due(at100, "carOf 0 3", 8);
        Rows.due(at100 + ", brake 0 9, run 1", "carOf 0 3", 8);
        Doc.says("Cars", "and otherwise half of its brake.");
        String at101 = HEAT_98 + ", brake 0 3, run 1";
        int[] halves = {0, 0, 1, 1, 2, 2, 3, 3, 4, 4};
        Rows.due(at101, "carOf 0 5", 101);
        for (int brake = 0; brake <= 9; brake++) {
            Rows.due(at101 + ", brake 0 " + brake, "carOf 0 6", halves[brake]);
        }
        Rows.due(at101, "carOf 0 3", 7);
        Rows.due(at101 + ", brake 0 9, run 1", "carOf 0 3", 12);
        Rows.due(at101 + ", brake 0 9", "carOf 0 2", 9);
    }

    private static void mules() {
        Doc.says("Mules", "There are as many mules as the setting 2 tells");
        Rows.due(FIVE_AT_MILL + ", set 2 0", "count 7", 0);
        Rows.due(FIVE_AT_MILL + ", set 2 0", "pull 0", 2);
        Rows.due(FIVE_AT_MILL, "count 7", 1);
        Rows.due(FIVE_AT_MILL, "pull 4", 0);
        Rows.due(FIVE_AT_MILL + ", pull 4", "pull 0", 2);
        String three = FIVE_AT_MILL + ", set 2 4, pull 0, pull 1, pull 2";
        Rows.due(three, "count 7", 1);
        Rows.due(three, "pull 3", 0);
        Rows.due(three + ", pull 3", "count 7", 0);
        Rows.due(three + ", pull 3", "pull 4", 2);
        Doc.says("Mules", "each pulls one car at a time.");
        Rows.due(FIVE_AT_MILL + ", pull 0, run 49", "pull 1", 2);
        Rows.due(FIVE_AT_MILL + ", pull 0, run 50", "pull 1", 0);
        Rows.due(FIVE_AT_MILL + ", pull 0, set 2 2", "pull 1", 0);
    }

    private static void refusalsOfRelease() {
        Doc.says("Refusals", "A release of a car is refused for the first of these reasons that"
                + " applies: 1 the car is not at the mine");
        for (String script : new String[] {ROLLING, Rows.AT_MILL, Rows.RAN_AWAY, PULLED,
            NEARLY_BACK}) {
            Rows.due(script, "release 0 0", 1);
        }
        Rows.due("car", "release 0 0", 0);
        Rows.due(NEARLY_BACK + ", run 1", "release 0 0", 0);
        Rows.due(Rows.AT_MILL + ", car, release 1 0", "release 0 0", 1);
        Doc.says("Refusals", "2 a car that is rolling is at a place below 10.");
        Rows.due("2*car, release 0 0", "release 1 0", 2);
        String at9 = "2*car, grade 0 5, release 0 0, run 2";
        Rows.due(at9, "carOf 0 4", 9);
        Rows.due(at9, "release 1 0", 2);
        String at10 = "2*car, release 0 0, run 4";
        Rows.due(at10, "carOf 0 4", 10);
        Rows.due(at10, "release 1 0", 0);
        Rows.due(at10 + ", brake 0 9, run 9", "release 1 0", 0);
        Rows.due("8*car", "release 7 0", 0);
        Rows.due("8*car, release 7 0", "release 0 0", 2);
        Rows.due(NEARLY_BACK + ", car", "release 1 0", 0);
    }

    private static void refusalsOfPull() {
        Doc.says("Refusals", "Pulling a car is refused for the first of these: 1 the car is neither"
                + " at the mill nor on a runaway track");
        for (String script : new String[] {"car", ROLLING, PULLED, NEARLY_BACK,
            NEARLY_BACK + ", run 1"}) {
            Rows.due(script, "pull 0", 1);
            Rows.due(script + ", set 2 0", "pull 0", 1);
        }
        Rows.due(Rows.AT_MILL, "pull 0", 0);
        Rows.due(Rows.RAN_AWAY, "pull 0", 0);
        Doc.says("Refusals", "2 no mule is free.");
        Rows.due(Rows.AT_MILL + ", set 2 0", "pull 0", 2);
        Rows.due(Rows.RAN_AWAY + ", set 2 0", "pull 0", 2);
        Rows.due(FIVE_AT_MILL + ", pull 0", "pull 1", 2);
        Rows.due(FIVE_AT_MILL + ", set 2 2, pull 0, pull 1, set 2 1", "pull 2", 2);
    }

    private static void car() {
        Doc.says("Promise 4", "Adds a car.");
        Rows.due("car", "count 1", 1);
        Rows.due("7*car", "count 1", 7);
        Rows.due("car", "carOf 1 0", Rows.INDEX);
        Doc.says("Promise 4", "Undoable.");
        Rows.due("car", "count 9", 1);
        Rows.due("2*car, undo", "count 1", 1);
        Rows.due("8*car, undo", "car", 7);
        Doc.says("Promise 4", "Returns its number.");
        for (int car = 0; car < 8; car++) {
            Rows.due(car == 0 ? "" : car + "*car", "car", car);
        }
        Doc.says("Promise 4", "Throws IllegalStateException if there are 8 cars");
        Rows.due("8*car", "car", Rows.STATE);
        Rows.due("8*car, release 0 0, run 60", "car", Rows.STATE);
    }

    private static void load() {
        Doc.says("Promise 5", "Loads ore onto a car at the mine.");
        Rows.due("2*car, load 1 7", "carOf 1 1", 7);
        Rows.due("2*car, load 1 7", "carOf 0 1", 0);
        Rows.due("2*car, load 1 7", "count 3", 7);
        Rows.due("2*car, load 1 7, load 0 2", "count 6", 9);
        Doc.says("Promise 5", "Undoable.");
        Rows.due("car, load 0 1", "count 9", 2);
        Rows.due("car, load 0 1, undo", "carOf 0 1", 0);
        Rows.due("car, load 0 1, undo", "count 3", 0);
        Doc.says("Promise 5", "car: its number");
        Rows.range("car", "load # 1", 0, 0, Rows.INDEX);
        Rows.range("8*car", "load # 1", 0, 7, Rows.INDEX);
        Doc.says("Promise 5", "ore: 1 to 20");
        Rows.due("car", "load 0 1", 1);
        Rows.due("car", "load 0 20", 20);
        Rows.range("car", "load 0 #", 1, 20, Rows.ARGUMENT);
        Doc.says("Promise 5", "Returns the ore of the car then.");
        Rows.due("car, load 0 1", "load 0 1", 2);
        Rows.due("car, load 0 1", "load 0 19", 20);
    }

    private static void loadThrows() {
        Doc.says("Promise 5", "Throws IndexOutOfBoundsException if there is no such car");
        Rows.due("", "load 0 1", Rows.INDEX);
        Rows.due("7*car", "load 7 1", Rows.INDEX);
        Rows.due("8*car", "load 8 1", Rows.INDEX);
        Rows.due("8*car", "load -1 1", Rows.INDEX);
        Rows.due("", "load 0 0", Rows.INDEX);
        Rows.due("2*car, undo", "load 1 21", Rows.INDEX);
        Doc.says("Promise 5", "Throws IllegalArgumentException if ore is out of range");
        Rows.due("car", "load 0 0", Rows.ARGUMENT);
        Rows.due("car", "load 0 21", Rows.ARGUMENT);
        Rows.due("car, load 0 20", "load 0 0", Rows.ARGUMENT);
        Rows.due("car, load 0 20", "load 0 21", Rows.ARGUMENT);
        Rows.due(ROLLING, "load 0 0", Rows.ARGUMENT);
        Rows.due(ROLLING, "load 0 21", Rows.ARGUMENT);
        Doc.says("Promise 5", "Throws IllegalStateException if the car is not at the mine");
        for (String script : new String[] {ROLLING, "car, release 0 9", Rows.AT_MILL,
            Rows.RAN_AWAY, PULLED, NEARLY_BACK}) {
            Rows.due(script, "load 0 1", Rows.STATE);
        }
        Rows.due(NEARLY_BACK + ", run 1", "load 0 20", 20);
        Rows.due(Rows.RAN_AWAY + ", pull 0, run 2", "load 0 16", 20);
        Doc.says("Promise 5", "or would have more than 20");
        Rows.due("car, load 0 20", "load 0 1", Rows.STATE);
        Rows.due("car, load 0 20", "load 0 20", Rows.STATE);
        Rows.due("car, load 0 19", "load 0 2", Rows.STATE);
        Rows.due("car, load 0 1", "load 0 20", Rows.STATE);
        Rows.due("car, load 0 19", "load 0 1", 20);
        Rows.due("car, load 0 1", "load 0 19", 20);
        Rows.due("2*car, load 0 20", "load 1 20", 20);
        Rows.due(Rows.RAN_AWAY + ", pull 0, run 2", "load 0 17", Rows.STATE);
    }

    private static void release() {
        Doc.says("Promise 6", "Releases a car with a brake, unless this is refused: it rolls then.");
        Rows.due("2*car, release 1 7", "carOf 1 0", 1);
        Rows.due("2*car, release 1 7", "carOf 1 2", 7);
        Rows.due("2*car, release 1 7", "carOf 0 0", 0);
        Rows.due("2*car, release 1 7", "carOf 0 2", 0);
        Rows.due("2*car, release 1 7", "carOf 1 4", 0);
        Doc.says("Promise 6", "Undoable, also if it is refused.");
        Rows.due("car, release 0 7", "count 9", 2);
        Rows.due("car, release 0 7, undo", "carOf 0 0", 0);
        Rows.due("car, release 0 7, undo", "carOf 0 2", 0);
        Rows.due("car, release 0 7, release 0 7", "count 9", 3);
        Rows.due("car, release 0 7, release 0 7, undo", "count 8", 0);
        Doc.says("Promise 6", "car: its number");
        Rows.range("car", "release # 1", 0, 0, Rows.INDEX);
        Rows.range("8*car", "release # 1", 0, 7, Rows.INDEX);
        Doc.says("Promise 6", "brake: 0 to 9");
        Rows.range("car", "release 0 #", 0, 9, Rows.ARGUMENT);
        Doc.says("Promise 6", "Throws IndexOutOfBoundsException if there is no such car");
        Rows.due("", "release 0 0", Rows.INDEX);
        Rows.due("8*car", "release 8 9", Rows.INDEX);
        Rows.due("car", "release 1 10", Rows.INDEX);
        Rows.due("car", "release -1 -1", Rows.INDEX);
        Doc.says("Promise 6", "Throws IllegalArgumentException if brake is out of range");
        Rows.due("car", "release 0 -1", Rows.ARGUMENT);
        Rows.due("car", "release 0 10", Rows.ARGUMENT);
        // No refusal is counted, though the release would be refused.
        Rows.due(ROLLING, "release 0 10", Rows.ARGUMENT);
        Rows.due("2*car, release 0 0", "release 1 -1", Rows.ARGUMENT);
    }

    private static void releaseRefused() {
        Doc.says("Promise 6", "Returns 0 if it rolls; otherwise the reason, 1 or 2.");
        Rows.due("car", "release 0 9", 0);
        String rolling = "2*car, release 0 3";
        Rows.due(rolling, "release 0 9", 1);
        Rows.due(rolling, "release 1 9", 2);
        Rows.due(rolling + ", release 0 9", "carOf 0 2", 3);
        Rows.due(rolling + ", release 1 9", "carOf 1 0", 0);
        Rows.due(rolling + ", release 1 9", "carOf 1 2", 0);
        Rows.due(rolling + ", release 0 9", "count 8", 1);
        Rows.due(rolling + ", release 0 9, release 1 9", "count 8", 2);
    }

    private static void brake() {
        Doc.says("Promise 7", "Changes the brake of a car that is rolling.");
        String two = "2*car, release 0 3, run 60, brake 0 0, run 4, release 1 5";
        Rows.due(two + ", brake 1 9", "carOf 1 2", 9);
        Rows.due(two + ", brake 1 9", "carOf 0 2", 0);
        Rows.due("car, release 0 5, brake 0 0", "carOf 0 2", 0);
        Doc.says("Promise 7", "Undoable.");
        Rows.due("car, release 0 5, brake 0 9", "count 9", 3);
        Rows.due("car, release 0 5, brake 0 5", "count 9", 3);
        Rows.due("car, release 0 5, brake 0 9, undo", "carOf 0 2", 5);
        Doc.says("Promise 7", "car: its number");
        Rows.range("car, release 0 0", "brake # 1", 0, 0, Rows.INDEX);
        Rows.due("8*car, release 7 0", "brake 7 1", 0);
        Doc.says("Promise 7", "brake: 0 to 9");
        Rows.range("car, release 0 5", "brake 0 #", 0, 9, Rows.ARGUMENT);
        Doc.says("Promise 7", "Returns the previous brake.");
        Rows.due("car, release 0 0", "brake 0 9", 0);
        Rows.due("car, release 0 9", "brake 0 0", 9);
        Rows.due("car, release 0 9, brake 0 4", "brake 0 4", 4);
    }

    private static void brakeThrows() {
        Doc.says("Promise 7", "Throws IndexOutOfBoundsException if there is no such car");
        Rows.due("", "brake 0 0", Rows.INDEX);
        Rows.due("car, release 0 0", "brake 1 0", Rows.INDEX);
        Rows.due("car, release 0 0", "brake -1 10", Rows.INDEX);
        Rows.due("8*car, release 7 0", "brake 8 -1", Rows.INDEX);
        Doc.says("Promise 7", "Throws IllegalArgumentException if brake is out of range");
        Rows.due("car, release 0 5", "brake 0 -1", Rows.ARGUMENT);
        Rows.due("car, release 0 5", "brake 0 10", Rows.ARGUMENT);
        Rows.due("car", "brake 0 10", Rows.ARGUMENT);
        Rows.due(Rows.AT_MILL, "brake 0 -1", Rows.ARGUMENT);
        Doc.says("Promise 7", "Throws IllegalStateException if the car is not rolling");
        for (String script : new String[] {"car", Rows.AT_MILL, Rows.RAN_AWAY, PULLED,
            NEARLY_BACK}) {
            Rows.due(script, "brake 0 5", Rows.STATE);
        }
        Rows.due("2*car, release 1 0", "brake 0 5", Rows.STATE);
        Rows.due("car, release 0 9, run 9", "brake 0 5", 9);
    }

    private static void pull() {
        Doc.says("Promise 8", "Lets a mule pull a car up to the mine, unless this is refused.");
        Rows.due(PULLED, "carOf 0 0", 4);
        Rows.due(PULLED, "carOf 0 4", 300);
        Rows.due(PULLED, "count 7", 0);
        Rows.due(PULLED + ", run 50", "carOf 0 0", 0);
        Rows.due(FIVE_AT_MILL + ", pull 3", "cars 4", 8);
        Doc.says("Promise 8", "(A car from a runaway track keeps its ore; its brake becomes 0.)");
        Rows.due(Rows.RAN_AWAY, "carOf 0 1", 4);
        Rows.due(Rows.RAN_AWAY, "carOf 0 2", 1);
        Rows.due(Rows.RAN_AWAY + ", pull 0", "carOf 0 1", 4);
        Rows.due(Rows.RAN_AWAY + ", pull 0", "carOf 0 2", 0);
        Rows.due(Rows.RAN_AWAY + ", pull 0", "carOf 0 4", 10);
        Rows.due(Rows.RAN_AWAY + ", pull 0", "carOf 0 5", 4);
        Rows.due(Rows.RAN_AWAY + ", pull 0, run 2", "carOf 0 1", 4);
        Doc.says("Promise 8", "Undoable, also if it is refused.");
        Rows.due("car, run 1", "pull 0", 1);
        Rows.due("car, pull 0", "count 9", 2);
        Rows.due("car, pull 0, undo", "count 8", 0);
        Rows.due(PULLED + ", undo", "carOf 0 0", 2);
        Rows.due(Rows.RAN_AWAY + ", pull 0, undo", "carOf 0 2", 1);
        Doc.says("Promise 8", "car: its number");
        Rows.range("car", "pull #", 0, 0, Rows.INDEX);
        Rows.range("8*car", "pull #", 0, 7, Rows.INDEX);
        Doc.says("Promise 8", "Throws IndexOutOfBoundsException if there is no such car");
        Rows.due("", "pull 0", Rows.INDEX);
        Rows.due("7*car", "pull 7", Rows.INDEX);
        Rows.due("8*car", "pull 8", Rows.INDEX);
        Rows.due("8*car", "pull -1", Rows.INDEX);
    }

    private static void pullRefused() {
        Doc.says("Promise 8", "Returns 0 if it is pulled; otherwise the reason, 1 or 2.");
        Rows.due(FIVE_AT_MILL, "pull 2", 0);
        Rows.due(FIVE_AT_MILL + ", pull 2", "pull 2", 1);
        Rows.due(FIVE_AT_MILL + ", pull 2", "pull 3", 2);
        Rows.due(FIVE_AT_MILL + ", pull 2, pull 2, pull 3", "count 8", 2);
        Rows.due(FIVE_AT_MILL + ", pull 2, pull 2, pull 3", "cars 4", 4);
        // A refused car keeps its brake.
        Rows.due(Rows.RAN_AWAY + ", set 2 0, pull 0", "carOf 0 2", 1);
        Rows.due("car, release 0 7, pull 0", "carOf 0 2", 7);
    }
}
