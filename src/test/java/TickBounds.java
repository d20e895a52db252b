/** The parts of a tick, and promise 10: run. */
final class TickBounds {
    /** Car 0 is at the place 10 with the speed 4, car 1 at the mine. */
    private static final String TWO = "2*car, release 0 0, run 4";
    /** Car 0 stands at the place 21, car 1 is at 10 with the speed 4. */
    private static final String BEHIND_21 =
            "2*car, release 0 0, run 6, brake 0 9, run 1, release 1 0, run 4";
    /** Car 0 stands at the place 10, car 1 at the mine. */
    private static final String BEHIND_10 = TWO + ", brake 0 9, run 1";
    /** With the speed 10 at the place 295. */
    private static final String AT_295 = Rows.FLAT + ", grade 0 5, car, release 0 0, run 30";
    /** At the mill in this very tick, with the heat 200. */
    private static final String HOT_AT_MILL =
            Rows.STEEP + ", car, release 0 8, run 1, brake 0 9, run 22";

    private TickBounds() {
    }

    static void all() {
        number();
        whoMoves();
        order();
        speed();
        speedLimits();
        heat();
        heatLimits();
        moving();
        nearer();
        nearest();
        stillRolling();
        bumping();
        switches();
        switchesAndSpeeds();
        severalSwitches();
        mill();
        spilling();
        cooling();
        pulling();
        run();
        accountOfRun();
    }

    private static void number() {
        Doc.says("Ticks", "A tick has these parts:");
        Rows.due(Rows.AT_MILL + ", pull 0, run 1", "carOf 0 4", 294);
        Doc.says("Ticks", "The number of the tick, which is 0 at first, increases by 1.");
        Rows.due("", "count 0", 0);
        Rows.due("run 1", "count 0", 1);
        Rows.due("run 1, run 1", "count 0", 2);
    }

    private static void whoMoves() {
        Doc.says("Ticks", "The cars that are rolling at the beginning of the tick move");
        Rows.due("2*car, release 1 0, run 1", "carOf 1 4", 1);
        Rows.due("2*car, release 1 0, run 60", "carOf 0 4", 0);
        Rows.due("2*car, release 1 0, run 60", "carOf 0 3", 0);
        Rows.due(Rows.AT_MILL + ", run 1", "carOf 0 4", 300);
        Rows.due(Rows.RAN_AWAY + ", run 1", "carOf 0 4", 10);
        Rows.due(Rows.RAN_AWAY + ", run 1", "carOf 0 3", 0);
        Rows.due(Rows.RAN_AWAY + ", pull 0, run 2", "carOf 0 3", 0);
    }

    /** If the hind car moved first, it would bump into the other one's old place. */
    private static void order() {
        Doc.says("Ticks", "one after the other, in descending order of the places that they had"
                + " then, of several at one place the one with the lowest number first:");
        String[] releases = {"2*car, release 0 0, run 4, release 1 0, grade 0 9, run 1",
            "2*car, release 1 0, run 4, release 0 0, grade 0 9, run 1"};
        for (int first = 0; first <= 1; first++) {
            int second = 1 - first;
            Rows.due(releases[first], "carOf " + first + " 4", 15);
            Rows.due(releases[first], "carOf " + second + " 4", 5);
            Rows.due(releases[first], "carOf " + second + " 3", 5);
            Rows.due(releases[first], "carOf " + second + " 8", 1);
            Rows.due(releases[first], "carOf " + first + " 8", 0);
            Rows.due(releases[first], "rolling 0", first);
            Rows.due(releases[first], "rolling 1", second);
        }
    }

    private static void speed() {
        Doc.says("Ticks", "The speed of the car changes by the grade of its section");
        Rows.due(Rows.FLAT + ", grade 0 9, car, release 0 0, run 1", "carOf 0 3", 9);
        // At the place 9 it is still in the section 0, at 27 it is not.
        Rows.due(Rows.FLAT + ", grade 0 9, car, release 0 0, run 2", "carOf 0 3", 18);
        Rows.due(Rows.FLAT + ", grade 0 9, car, release 0 0, run 3", "carOf 0 3", 18);
        Rows.due(Rows.FLAT + ", grade 0 9, grade 2 1, car, release 0 0, run 3", "carOf 0 3", 19);
        Rows.due(AT_295 + ", grade 28 9, run 1", "carOf 0 9", 10);
        Rows.due(AT_295 + ", grade 29 9, run 1", "carOf 0 9", 19);
        Doc.says("Ticks", "plus its ore / 5");
        int[][] rows = {{1, 0}, {4, 0}, {5, 1}, {9, 1}, {10, 2}, {14, 2}, {15, 3}, {19, 3}, {20, 4}};
        for (int[] row : rows) {
            Rows.due(Rows.FLAT + ", car, load 0 " + row[0] + ", release 0 0, run 1", "carOf 0 3",
                    row[1]);
        }
        Doc.says("Ticks", "minus the force of its brake");
        for (int brake = 0; brake <= 9; brake++) {
            Rows.due(Rows.STEEP + ", car, release 0 " + brake + ", run 1", "carOf 0 3", 9 - brake);
        }
        Rows.due(HOT_AT_MILL + ", set 1 20, pull 0, run 15, release 0 9, run 1", "carOf 0 3", 5);
        Doc.says("Ticks", "minus the setting 0");
        for (int drag = 0; drag <= 5; drag++) {
            Rows.due("grade 0 9, set 0 " + drag + ", car, release 0 0, run 1", "carOf 0 3",
                    9 - drag);
        }
    }

    private static void speedLimits() {
        Doc.says("Ticks", "but it is at least 0");
        String five = Rows.FLAT + ", grade 0 5, car, release 0 0, run 1, grade 0 0";
        Rows.due(five + ", brake 0 4, run 1", "carOf 0 3", 1);
        Rows.due(five + ", brake 0 5, run 1", "carOf 0 3", 0);
        Rows.due(five + ", brake 0 6, run 1", "carOf 0 3", 0);
        Rows.due(five + ", brake 0 9, run 1", "carOf 0 3", 0);
        Rows.due(five + ", brake 0 9, run 1", "carOf 0 4", 5);
        Rows.due(five + ", brake 0 6, run 1, brake 0 0, grade 0 1, run 1", "carOf 0 3", 1);
        Doc.says("Ticks", "and at most 40.");
        String at36 = Rows.STEEP + ", car, release 0 0, run 4";
        Rows.due(at36, "carOf 0 3", 36);
        int[][] rows = {{6, 39}, {5, 40}, {4, 40}, {0, 40}};
        for (int[] row : rows) {
            String next = at36 + ", brake 0 " + row[0] + ", run 1";
            Rows.due(next, "carOf 0 3", row[1]);
            Rows.due(next, "carOf 0 4", 90 + row[1]);
            Rows.due(next, "carOf 0 9", row[1]);
        }
        Rows.due(at36 + ", run 2, brake 0 9, grades 0, run 1", "carOf 0 3", 31);
    }

    private static void heat() {
        Doc.says("Ticks", "The heat increases by its brake if its speed is then greater than 0");
        String braked = "set 0 0, grade 0 6, car, release 0 ";
        Rows.due(braked + "5, run 1", "carOf 0 3", 1);
        Rows.due(braked + "5, run 1", "carOf 0 5", 5);
        Rows.due(braked + "5, run 2", "carOf 0 5", 10);
        Rows.due(braked + "0, run 1", "carOf 0 5", 0);
        Rows.due(braked + "6, run 1", "carOf 0 3", 0);
        Rows.due(braked + "6, run 1", "carOf 0 5", 0);
        // It counts the brake, not the force of the brake, and the speed ahead of a bump.
        String hot = HOT_AT_MILL + ", set 1 20, pull 0, run 15, release 0 9";
        Rows.due(hot, "carOf 0 5", 125);
        Rows.due(hot, "carOf 0 6", 4);
        Rows.due(hot + ", run 1", "carOf 0 5", 134);
        String bumping = BEHIND_10 + ", grade 0 9, release 1 1, run 1";
        Rows.due(bumping, "carOf 1 3", 0);
        Rows.due(bumping, "carOf 1 5", 1);
        Doc.says("Ticks", "and otherwise decreases by 5");
        String standing = Rows.FLAT + ", grade 0 9, car, release 0 8, run 1, grade 0 0, run 1";
        Rows.due(standing, "carOf 0 3", 0);
        Rows.due(standing, "carOf 0 5", 3);
    }

    private static void heatLimits() {
        Doc.says("Ticks", "but it is at least 0 and at most 200.");
        for (int heat = 4; heat <= 6; heat++) {
            String script = Rows.FLAT + ", grade 0 " + (heat + 1) + ", car, release 0 " + heat
                    + ", run 1";
            Rows.due(script, "carOf 0 5", heat);
            Rows.due(script + ", grade 0 0, run 1", "carOf 0 5", heat == 6 ? 1 : 0);
            Rows.due(script + ", grade 0 0, run 2", "carOf 0 5", 0);
        }
        String at197 = Rows.STEEP + ", car, release 0 8, run 1, brake 0 9, run 21";
        Rows.due(at197, "carOf 0 5", 197);
        int[][] rows = {{0, 197}, {2, 199}, {3, 200}, {4, 200}, {9, 200}};
        for (int[] row : rows) {
            Rows.due(at197 + ", brake 0 " + row[0] + ", run 1", "carOf 0 5", row[1]);
            Rows.due(at197 + ", brake 0 " + row[0] + ", run 2", "carOf 0 5", row[1] - 5);
        }
    }

    private static void moving() {
        Doc.says("Ticks", "The car moves by its speed");
        int place = 0;
        for (int tick = 1; tick < 24; tick++) {
            place += tick;
            Rows.due("car, release 0 0, run " + tick, "carOf 0 4", place);
        }
        Rows.due("car, release 0 9, run 1", "carOf 0 4", 0);
    }

    private static void nearer() {
        Doc.says("Ticks", "and it would come nearer to it than 10");
        // To 11, just 10 before the other one.
        Rows.due(BEHIND_21 + ", brake 1 4, run 1", "carOf 1 4", 11);
        Rows.due(BEHIND_21 + ", brake 1 4, run 1", "carOf 1 3", 1);
        Rows.due(BEHIND_21 + ", brake 1 4, run 1", "carOf 1 8", 0);
        // To 12.
        Rows.due(BEHIND_21 + ", brake 1 3, run 1", "carOf 1 4", 11);
        Rows.due(BEHIND_21 + ", brake 1 3, run 1", "carOf 1 3", 0);
        Rows.due(BEHIND_21 + ", brake 1 3, run 1", "carOf 1 8", 1);
        // It stays, 11 before the other one.
        Rows.due(BEHIND_21 + ", brake 1 5, run 1", "carOf 1 8", 0);
        Doc.says("Ticks", "or beyond it");
        int[] grades = {5, 6, 7, 9};
        for (int grade : grades) {
            // From 10 by the speed 4 + the grade: to 19, to 20, just to 21, beyond it.
            String beyond = BEHIND_21 + ", set 0 0, grade 1 " + grade + ", brake 1 0, run 1";
            Rows.due(beyond, "carOf 1 9", 4 + grade);
            Rows.due(beyond, "carOf 1 4", 11);
            Rows.due(beyond, "carOf 1 3", 0);
            Rows.due(beyond, "carOf 1 8", 1);
        }
        Doc.says("Ticks", "(as it is then:");
        // Car 0 has moved from 10 to 15 already.
        Rows.due(TWO + ", release 1 0, grade 0 7, run 1", "carOf 1 4", 5);
        Rows.due(TWO + ", release 1 0, grade 0 7, run 1", "carOf 1 8", 0);
        Rows.due(TWO + ", release 1 0, grade 0 8, run 1", "carOf 1 4", 5);
        Rows.due(TWO + ", release 1 0, grade 0 8, run 1", "carOf 1 8", 1);
    }

    private static void nearest() {
        Doc.says("Ticks", "at a greater place, or at the same place with a lower number");
        // The car behind is not before it.
        Rows.due(TWO + ", release 1 0, run 20", "carOf 0 8", 0);
        Rows.due(TWO + ", release 1 0, run 19", "carOf 0 4", 276);
        Doc.says("Ticks", "the nearest one counts, of several there the one with the highest"
                + " number)");
        // The first one stands at 46, the second one at 21; the third one would come to 15.
        int[][] orders = {{0, 1, 2}, {2, 1, 0}, {1, 0, 2}, {2, 0, 1}, {0, 2, 1}, {1, 2, 0}};
        for (int[] order : orders) {
            String script = "3*car, release " + order[0] + " 0, run 9, brake " + order[0]
                    + " 9, run 2, release " + order[1] + " 0, run 6, brake " + order[1]
                    + " 9, run 1, release " + order[2] + " 0, run 5";
            Rows.due(script, "carOf " + order[0] + " 4", 46);
            Rows.due(script, "carOf " + order[1] + " 4", 21);
            Rows.due(script, "carOf " + order[2] + " 4", 11);
            Rows.due(script, "carOf " + order[2] + " 8", 1);
            Rows.due(script, "carOf " + order[1] + " 8", 0);
        }
    }

    private static void stillRolling() {
        Doc.says("Ticks", "but if a car that is still rolling is before it");
        // The first one runs away, or arrives, in this tick.
        String away = "2*car, release 0 0, run 4, release 1 0, grade 0 9, run 1, spring 2 5, run 1";
        Rows.due(away, "carOf 0 0", 3);
        Rows.due(away, "carOf 0 4", 20);
        Rows.due(away, "carOf 1 4", 17);
        Rows.due(away, "carOf 1 8", 1);
        String arrives = Rows.FLAT + ", grade 0 5, 2*car, release 0 0, run 2, release 1 0, run 28,"
                + " brake 0 6, run 1, brake 0 0, run 1";
        Rows.due(arrives, "carOf 0 0", 2);
        Rows.due(arrives, "carOf 1 4", 295);
        Rows.due(arrives, "carOf 1 8", 0);
        // At the mine, at the mill, on a runaway track, pulled.
        Rows.due(Rows.RAN_AWAY + ", spring 1 0, car, release 1 0, run 4", "carOf 1 4", 20);
        Rows.due(Rows.RAN_AWAY + ", spring 1 0, car, release 1 0, run 4", "carOf 1 8", 0);
        Rows.due("8*car, release 7 0, run 1", "carOf 7 4", 1);
        String pulled = Rows.RAN_AWAY + ", set 1 1, pull 0, spring 1 0, car, release 1 0, run 3";
        Rows.due(pulled, "carOf 0 4", 7);
        Rows.due(pulled, "carOf 1 4", 12);
        Rows.due(pulled, "carOf 1 8", 0);
        Rows.due("2*car, release 0 0, run 24, release 1 0, run 24", "carOf 1 8", 0);
        Rows.due("2*car, release 0 0, run 24, release 1 0, run 24", "carOf 1 0", 2);
    }

    private static void bumping() {
        Doc.says("Ticks", "it bumps: it moves only to 10 before the place of that one");
        Rows.due(TWO + ", release 1 0, grade 0 9, run 1", "carOf 1 4", 5);
        Rows.due(BEHIND_21 + ", run 1", "carOf 1 4", 11);
        Doc.says("Ticks", "or not at all if it is nearer than that already");
        Rows.due(BEHIND_10 + ", release 1 0, run 1", "carOf 1 4", 0);
        Rows.due(BEHIND_10 + ", release 1 0, run 1", "carOf 1 8", 1);
        Rows.due(BEHIND_10 + ", release 1 0, run 3", "carOf 1 8", 3);
        Rows.due(BEHIND_10 + ", release 1 9, run 3", "carOf 1 8", 0);
        Doc.says("Ticks", "and its speed becomes that of the other car, if that is less.");
        Rows.due(TWO + ", release 1 0, grade 0 9, run 1", "carOf 1 9", 7);
        Rows.due(TWO + ", release 1 0, grade 0 9, run 1", "carOf 1 3", 5);
        Rows.due(TWO + ", release 1 0, grade 0 8, run 1", "carOf 1 3", 5);
        Rows.due(BEHIND_10 + ", release 1 0, run 1", "carOf 1 3", 0);
        Rows.due(BEHIND_10 + ", release 1 0, run 1", "carOf 0 3", 0);
    }

    private static void switches() {
        Doc.says("Ticks", "If the car moves into a section with a spring switch, or through it"
                + " (that is: its place was before the beginning of this section, and is not any"
                + " more)");
        // From 6 just to 10.
        Rows.due("car, spring 1 1, release 0 0, run 3", "carOf 0 0", 1);
        Rows.due("car, spring 1 1, release 0 0, run 4", "carOf 0 0", 3);
        // From 10 by 9 to 19, and by 10 to 20.
        Rows.due(TWO + ", spring 2 1, grade 1 7, run 1", "carOf 0 4", 19);
        Rows.due(TWO + ", spring 2 1, grade 1 7, run 1", "carOf 0 0", 1);
        Rows.due(TWO + ", spring 2 1, grade 1 8, run 1", "carOf 0 0", 3);
        // From the beginning of the section itself.
        Rows.due(TWO + ", spring 1 1, run 1", "carOf 0 0", 1);
        Rows.due(TWO + ", spring 1 1, run 1", "carOf 0 4", 15);
        // From 9, from 105 through the section 11, and past the mill.
        Rows.due("grade 0 5, car, release 0 0, run 2, spring 1 1, run 1", "carOf 0 0", 3);
        Rows.due("car, release 0 0, run 14, spring 11 1, run 1", "carOf 0 4", 110);
        Rows.due("car, release 0 0, run 14, spring 10 1, run 1", "carOf 0 4", 120);
        Rows.due("car, spring 29 1, release 0 0, run 23", "carOf 0 4", 276);
        Rows.due("car, spring 29 1, release 0 0, run 24", "carOf 0 4", 290);
        Doc.says("Ticks", "it runs away: its state is 3, its place is the beginning of that"
                + " section, its speed is 0.");
        int[] due = {3, 4, 1, 0, 10, 4, 1, 0, 0, 4};
        for (int what = 0; what <= 9; what++) {
            Rows.due(Rows.RAN_AWAY, "carOf 0 " + what, due[what]);
        }
        Rows.due("car, spring 2 5, release 0 0, run 6", "carOf 0 4", 20);
        Rows.due("car, spring 29 23, load 0 4, release 0 0", "run 24", 0);
        Rows.due("car, spring 29 23, load 0 4, release 0 0, run 24", "count 5", 0);
    }

    private static void switchesAndSpeeds() {
        Doc.says("Ticks", "is greater than the limit of the switch");
        Rows.due("car, spring 1 3, release 0 0, run 4", "carOf 0 0", 3);
        Rows.due("car, spring 1 4, release 0 0, run 4", "carOf 0 0", 1);
        Rows.due("car, spring 1 5, release 0 0, run 4", "carOf 0 0", 1);
        Rows.due("car, spring 29 23, release 0 0, run 24", "carOf 0 0", 3);
        Rows.due("car, spring 29 24, release 0 0, run 24", "carOf 0 0", 2);
        String fast = Rows.STEEP + ", car, release 0 0, run 5, spring 17 ";
        Rows.due(fast + "40, run 1", "carOf 0 4", 170);
        Rows.due(fast + "40, run 1", "carOf 0 0", 1);
        Rows.due(fast + "39, run 1", "carOf 0 0", 3);
        Doc.says("Ticks", "and its speed then (behind the bump, if it bumps)");
        // With the speed 15 it bumps behind a car with the speed 7, and comes from 9 to 18.
        String bump = TWO + ", release 1 0, run 1, grade 0 9, run 1, spring 1 ";
        Rows.due(bump + "7, run 1", "carOf 1 9", 15);
        Rows.due(bump + "7, run 1", "carOf 1 8", 1);
        Rows.due(bump + "7, run 1", "carOf 1 4", 18);
        Rows.due(bump + "7, run 1", "carOf 1 0", 1);
        Rows.due(bump + "6, run 1", "carOf 1 0", 3);
        Rows.due(bump + "6, run 1", "carOf 1 4", 10);
        Rows.due(bump + "6, run 1", "carOf 1 8", 1);
        Rows.due(bump + "6, run 1", "carOf 0 0", 1);
        // It would come to 21, but bumps at 20 or at 18 and stands there.
        String at20 = "2*car, release 0 0, run 7, brake 0 6, run 1, brake 0 9, run 1, spring 2 1,"
                + " release 1 0, run 6";
        Rows.due(at20, "carOf 1 4", 20);
        Rows.due(at20, "carOf 1 0", 1);
        String at18 = "2*car, release 0 0, run 7, brake 0 9, run 1, spring 2 1, release 1 0, run 6";
        Rows.due(at18, "carOf 1 4", 18);
        Rows.due(at18, "carOf 1 0", 1);
    }

    private static void severalSwitches() {
        Doc.says("Ticks", "If there are several such switches, the first one counts.");
        // From 105 with the speed 15 through the section 11 into the section 12.
        int[][] rows = {{14, 14, 110}, {1, 14, 110}, {14, 1, 110}, {15, 14, 120}, {40, 1, 120},
            {0, 14, 120}, {14, 0, 110}};
        for (int[] row : rows) {
            String script = "car, release 0 0, run 14, spring 11 " + row[0] + ", spring 12 "
                    + row[1] + ", run 1";
            Rows.due(script, "carOf 0 4", row[2]);
            Rows.due(script, "section 11 4", row[2] == 110 ? 1 : 0);
            Rows.due(script, "section 12 4", row[2] == 120 ? 1 : 0);
            Rows.due(script, "section 11 3", row[2] == 110 ? 1 : 0);
            Rows.due(script, "section 12 3", row[2] == 120 ? 1 : 0);
        }
        Rows.due("car, release 0 0, run 14, spring 11 15, spring 12 15, run 1", "carOf 0 4", 120);
        Rows.due("car, release 0 0, run 14, spring 11 15, spring 12 15, run 1", "carOf 0 0", 1);
    }

    private static void mill() {
        Doc.says("Ticks", "Otherwise, if its place is 300 or more, it is at the mill: its place is"
                + " 300, its state is 2.");
        int[][] rows = {{6, 299, 1}, {5, 300, 2}, {4, 300, 2}, {0, 300, 2}};
        for (int[] row : rows) {
            String script = AT_295 + ", brake 0 " + row[0] + ", run 1";
            Rows.due(script, "carOf 0 4", row[1]);
            Rows.due(script, "carOf 0 0", row[2]);
        }
        Rows.due(AT_295 + ", brake 0 6, run 1, brake 0 3, run 1", "carOf 0 0", 2);
        Doc.says("Ticks", "Its ore, speed and brake become 0.");
        String braked = Rows.FLAT + ", grade 0 6, car, load 0 5, release 0 1, run 26";
        int[] due = {2, 0, 0, 0, 300, 26, 0, 5, 0, 12};
        for (int what = 0; what <= 9; what++) {
            Rows.due(braked, "carOf 0 " + what, due[what]);
        }
    }

    private static void spilling() {
        Doc.says("Ticks", "If its speed is greater than 25, half of its ore is spilled (ore / 2).");
        // The brake holds what the ore adds; the section 2 leads to the speed 25 or 26.
        int[][] rows = {{1, 0, 0}, {2, 0, 1}, {3, 0, 1}, {4, 0, 2}, {5, 1, 2}, {19, 3, 9},
            {20, 4, 10}};
        for (int[] row : rows) {
            String start = Rows.FLAT + ", grade 0 9, car, load 0 " + row[0] + ", release 0 "
                    + row[1];
            Rows.due(start + ", grade 2 7, run 12", "carOf 0 3", 25);
            Rows.due(start + ", grade 2 7", "run 13", row[0]);
            Rows.due(start + ", grade 2 7, run 13", "count 5", 0);
            Rows.due(start + ", grade 2 8, run 12", "carOf 0 3", 26);
            Rows.due(start + ", grade 2 8", "run 13", row[0] - row[2]);
            Rows.due(start + ", grade 2 8, run 13", "count 5", row[2]);
        }
        Doc.says("Ticks", "The rest of the ore is delivered.");
        for (int[] row : rows) {
            String script = Rows.FLAT + ", grade 0 9, car, load 0 " + row[0] + ", release 0 "
                    + row[1] + ", grade 2 8, run 13";
            Rows.due(script, "count 4", row[0] - row[2]);
            Rows.due(script, "carOf 0 7", row[0] - row[2]);
            Rows.due(script, "count 6", 0);
        }
        Rows.due("car, release 0 0", "run 24", 0);
    }

    private static void cooling() {
        Doc.says("Ticks", "The heat of each car that was not rolling at the beginning of the tick"
                + " decreases by 5");
        Rows.due(HOT_AT_MILL, "carOf 0 5", 200);
        Rows.due(HOT_AT_MILL + ", run 1", "carOf 0 5", 195);
        Rows.due(HOT_AT_MILL + ", pull 0, run 1", "carOf 0 5", 195);
        String back = HOT_AT_MILL + ", set 1 20, pull 0, run 15";
        Rows.due(back, "carOf 0 0", 0);
        Rows.due(back, "carOf 0 5", 125);
        Rows.due(back + ", run 1", "carOf 0 5", 120);
        Rows.due(back + ", load 0 1, release 0 0, run 1", "carOf 0 5", 125);
        Rows.due(Rows.RAN_AWAY, "carOf 0 5", 4);
        // Each car for itself.
        Rows.due(HOT_AT_MILL + ", 2*car, release 1 1, run 2", "carOf 0 5", 190);
        Rows.due(HOT_AT_MILL + ", 2*car, release 1 1, run 2", "carOf 1 5", 2);
        Rows.due(HOT_AT_MILL + ", 2*car, release 1 1, run 2", "carOf 2 5", 0);
        Doc.says("Ticks", "but is at least 0.");
        Rows.due("car, run 1", "carOf 0 5", 0);
        Rows.due(Rows.RAN_AWAY + ", run 1", "carOf 0 5", 0);
        Rows.due(HOT_AT_MILL + ", run 39", "carOf 0 5", 5);
        Rows.due(HOT_AT_MILL + ", run 40", "carOf 0 5", 0);
        Rows.due(HOT_AT_MILL + ", run 41", "carOf 0 5", 0);
        String at199 = Rows.STEEP + ", car, release 0 8, run 1, brake 0 9, run 21, brake 0 2, run 1";
        Rows.due(at199 + ", run 39", "carOf 0 5", 4);
        Rows.due(at199 + ", run 40", "carOf 0 5", 0);
        Rows.due(at199 + ", run 41", "carOf 0 5", 0);
    }

    private static void pulling() {
        Doc.says("Ticks", "Each car that is pulled comes nearer to the mine by the setting 1");
        for (int pace = 1; pace <= 20; pace++) {
            Rows.due(Rows.AT_MILL + ", set 1 " + pace + ", pull 0, run 1", "carOf 0 4", 300 - pace);
        }
        Rows.due(Rows.AT_MILL + ", pull 0, run 2", "carOf 0 4", 288);
        Doc.says("Ticks", "at the place 0 it is at the mine");
        // Just to 0, and beyond.
        int[][] rows = {{6, 49, 6}, {7, 42, 6}, {20, 14, 20}, {11, 27, 3}, {13, 23, 1}};
        for (int[] row : rows) {
            String last = Rows.AT_MILL + ", set 1 " + row[0] + ", pull 0, run " + row[1];
            Rows.due(last, "carOf 0 4", row[2]);
            Rows.due(last, "carOf 0 0", 4);
            Rows.due(last + ", run 1", "carOf 0 4", 0);
            Rows.due(last + ", run 1", "carOf 0 0", 0);
        }
        int[] paces = {9, 10, 11, 20};
        for (int pace : paces) {
            String script = Rows.RAN_AWAY + ", set 1 " + pace + ", pull 0, run 1";
            Rows.due(script, "carOf 0 4", pace == 9 ? 1 : 0);
            Rows.due(script, "carOf 0 0", pace == 9 ? 4 : 0);
        }
        Doc.says("Ticks", "and its mule is free.");
        Rows.due(Rows.AT_MILL + ", pull 0, run 49", "count 7", 0);
        Rows.due(Rows.AT_MILL + ", pull 0, run 50", "count 7", 1);
    }

    private static void run() {
        Doc.says("Promise 10", "Lets ticks pass.");
        Rows.due("run 17", "count 0", 17);
        Rows.due("car, release 0 0, run 3", "carOf 0 4", 6);
        Rows.sameState("car, release 0 0, run 5", "car, release 0 0, 5*run 1");
        String busy = Rows.RAN_AWAY + ", pull 0, 2*car, release 1 1, load 2 9, run 4, spring 1 0,"
                + " release 2 0, ";
        Rows.sameState(busy + "run 30", busy + "30*run 1");
        Doc.says("Promise 10", "Undoable, as one call.");
        Rows.due("run 60", "count 9", 1);
        Rows.due("run 60, undo", "count 0", 0);
        Rows.due("run 2, run 60, undo", "count 0", 2);
        Doc.says("Promise 10", "ticks: 1 to 60");
        Rows.due("run 1", "count 0", 1);
        Rows.due("run 60", "count 0", 60);
        Doc.says("Promise 10", "Throws IllegalArgumentException if ticks is out of range");
        Rows.range("", "run #", 1, 60, Rows.ARGUMENT);
        Rows.due(Rows.ROLLS, "run 0", Rows.ARGUMENT);
        Rows.due(Rows.ROLLS, "run 61", Rows.ARGUMENT);
    }

    private static void accountOfRun() {
        Doc.says("Promise 10", "Returns the ore that is delivered in them.");
        Rows.due(Rows.ROLLS, "run 23", 0);
        Rows.due(Rows.ROLLS, "run 24", 4);
        Rows.due(Rows.ROLLS, "run 60", 4);
        Rows.due(Rows.ROLLS + ", run 23", "run 1", 4);
        Rows.due(Rows.AT_MILL, "run 60", 0);
        // What is spilled is not delivered.
        Rows.due("car, load 0 9, release 0 0", "run 17", 5);
        String two = "2*car, load 0 4, load 1 3, release 0 0, run 4, release 1 0";
        Rows.due(two, "run 20", 4);
        Rows.due(two, "run 24", 7);
        Rows.due(two + ", run 20", "run 4", 3);
    }
}
