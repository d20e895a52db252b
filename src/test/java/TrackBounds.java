/** Terms, Track, Settings, and the promises 1, 2, 3 and 9: the constructor, grade, spring, set. */
final class TrackBounds {
    private static final String THREE_SWITCHES = "spring 1 1, spring 5 5, spring 29 40";
    private static final String FOUR_SWITCHES = THREE_SWITCHES + ", spring 6 6";
    /** With the speed 10 at the place 295, when 30 ticks have passed. */
    private static final String AT_295 = Rows.FLAT + ", grade 0 5, car, release 0 0, run 30";

    private TrackBounds() {
    }

    static void all() {
        terms();
        track();
        settings();
        newObject();
        grade();
        spring();
        springThrows();
        set();
    }

    private static void terms() {
        Doc.says("Terms", "All numbers are integers, unless a float is mentioned.");
        String three = "3*car, release 0 0, run 4, release 1 0, run 5, release 2 0";
        Rows.due(three, "meanSpeed", "4.6666665");
        Rows.due(three, "carOf 0 3", 9);
        Doc.says("Terms", "Divisions round toward zero.");
        Rows.due(Rows.FLAT + ", car, load 0 9, release 0 0, run 1", "carOf 0 3", 1);
        Rows.due("car, load 0 9, release 0 0, run 17", "carOf 0 7", 5);
        Doc.says("Terms", "Sets of cars are bit masks.");
        Rows.due("", "cars 0", 0);
        Rows.due("car", "cars 0", 1);
        Rows.due("8*car", "cars 0", 255);
        Rows.due("8*car, release 7 0", "cars 1", 128);
        Rows.due("8*car, release 7 0", "cars 0", 127);
        Rows.due("8*car, release 7 0", "section 0 2", 128);
    }

    private static void track() {
        Doc.says("Track", "The track has 30 sections, numbered from 0 at the mine");
        Rows.range("", "section # 0", 0, 29, Rows.INDEX);
        Rows.due("car, release 0 0", "section 0 2", 1);
        Rows.due(AT_295, "section 29 2", 1);
        Doc.says("Track", "each has a grade from 0 to 9, at first 3.");
        for (int section = 0; section < 30; section++) {
            Rows.due("", "section " + section + " 0", 3);
        }
        Rows.due("grade 0 0", "section 0 0", 0);
        Rows.due("grade 0 9", "section 0 0", 9);
        Rows.range("", "grade 0 #", 0, 9, Rows.ARGUMENT);
        Doc.says("Track", "A place on the track is a number from 0 (the mine) to 300 (the mill)");
        Rows.due("car", "carOf 0 4", 0);
        Rows.due(AT_295 + ", brake 0 6, run 1", "carOf 0 4", 299);
        Rows.due(AT_295 + ", brake 0 5, run 1", "carOf 0 4", 300);
        Rows.due(AT_295 + ", brake 0 4, run 1", "carOf 0 4", 300);
        Doc.says("Track", "the section of a place below 300 is the place / 10.");
        String at9 = "grade 0 5, car, release 0 0, run 2";
        Rows.due(at9, "carOf 0 4", 9);
        Rows.due(at9, "section 0 2", 1);
        Rows.due(at9, "section 1 2", 0);
        Rows.due("car, release 0 0, run 4", "carOf 0 4", 10);
        Rows.due("car, release 0 0, run 4", "section 0 2", 0);
        Rows.due("car, release 0 0, run 4", "section 1 2", 1);
        Rows.due(AT_295 + ", brake 0 6, run 1", "section 29 2", 1);
        for (int section = 0; section < 30; section++) {
            Rows.due(AT_295 + ", brake 0 5, run 1", "section " + section + " 2", 0);
        }
        Doc.says("Track", "A section, but not the section 0, can have a spring switch");
        Rows.range("", "spring # 1", 1, 29, Rows.INDEX);
        Doc.says("Track", "with a limit from 1 to 40");
        Rows.due("spring 1 1", "section 1 1", 1);
        Rows.due("spring 1 40", "section 1 1", 40);
        Rows.due("", "spring 1 41", Rows.ARGUMENT);
        Doc.says("Track", "there are at most 4 switches.");
        Rows.due(THREE_SWITCHES, "spring 6 6", 0);
        Rows.due(FOUR_SWITCHES, "spring 7 7", Rows.STATE);
        Rows.due(FOUR_SWITCHES, "count 2", 4);
    }

    private static void settings() {
        Doc.says("Settings", "0: the drag, 0 to 5, at first 2");
        Rows.due("", "count 11", 2);
        Rows.range("", "set 0 #", 0, 5, Rows.ARGUMENT);
        Rows.due("set 0 0, car, release 0 0, run 1", "carOf 0 3", 3);
        Rows.due("set 0 5, grade 0 9, car, release 0 0, run 1", "carOf 0 3", 4);
        Doc.says("Settings", "1: the pace of mules, 1 to 20, at first 6");
        Rows.due("", "count 12", 6);
        Rows.range("", "set 1 #", 1, 20, Rows.ARGUMENT);
        Rows.due(Rows.AT_MILL + ", pull 0, run 1", "carOf 0 4", 294);
        Rows.due(Rows.AT_MILL + ", set 1 1, pull 0, run 1", "carOf 0 4", 299);
        Rows.due(Rows.AT_MILL + ", set 1 20, pull 0, run 1", "carOf 0 4", 280);
        Doc.says("Settings", "2: the mules, 0 to 4, at first 1.");
        Rows.due("", "count 13", 1);
        Rows.range("", "set 2 #", 0, 4, Rows.ARGUMENT);
        Doc.says("Settings", "(If there are fewer mules than cars that are pulled, these are"
                + " pulled on all the same.)");
        String pulled = "set 2 2, 2*car, release 0 0, run 4, release 1 0, run 24, pull 0, pull 1";
        Rows.due(pulled + ", set 2 1", "cars 4", 3);
        Rows.due(pulled + ", set 2 1, run 1", "carOf 0 4", 294);
        Rows.due(pulled + ", set 2 1, run 1", "carOf 1 4", 294);
        Rows.due(pulled + ", set 2 0, run 1", "carOf 0 4", 294);
        Rows.due(pulled + ", set 2 0, run 1", "carOf 1 4", 294);
        Rows.due(pulled + ", set 2 0, run 50", "cars 0", 3);
    }

    private static void newObject() {
        Doc.says("Promise 1", "Creates a track without switches and cars.");
        for (int section = 0; section < 30; section++) {
            for (int what = 1; what <= 4; what++) {
                Rows.due("", "section " + section + " " + what, 0);
            }
        }
        Rows.due("", "count 2", 0);
        Rows.due("", "count 1", 0);
        Rows.due("", "carOf 0 0", Rows.INDEX);
        for (int state = 0; state <= 4; state++) {
            Rows.due("", "cars " + state, 0);
        }
        Rows.due("", "undo", Rows.STATE);
    }

    private static void grade() {
        Doc.says("Promise 2", "Changes the grade of a section.");
        Rows.due("grade 0 9", "section 0 0", 9);
        Rows.due("grade 0 9", "section 1 0", 3);
        Rows.due("grade 29 0", "section 29 0", 0);
        Rows.due("grade 29 0", "section 28 0", 3);
        Doc.says("Promise 2", "Undoable.");
        Rows.due("grade 4 9", "count 9", 1);
        Rows.due("grade 4 3", "count 9", 1);
        Rows.due("grade 4 9, undo", "section 4 0", 3);
        Doc.says("Promise 2", "section: 0 to 29");
        Rows.due("", "grade 0 5", 3);
        Rows.due("", "grade 29 5", 3);
        Doc.says("Promise 2", "grade: 0 to 9");
        Rows.due("", "grade 5 0", 3);
        Rows.due("", "grade 5 9", 3);
        Doc.says("Promise 2", "Returns the previous grade.");
        Rows.due("grade 5 0", "grade 5 9", 0);
        Rows.due("grade 5 9", "grade 5 0", 9);
        Rows.due("grade 5 9", "grade 5 9", 9);
        Doc.says("Promise 2", "Throws IndexOutOfBoundsException if there is no such section");
        Rows.range("", "grade # 3", 0, 29, Rows.INDEX);
        Rows.due("", "grade 30 10", Rows.INDEX);
        Rows.due("", "grade -1 -1", Rows.INDEX);
        Doc.says("Promise 2", "Throws IllegalArgumentException if grade is out of range");
        Rows.range("", "grade 0 #", 0, 9, Rows.ARGUMENT);
        Rows.range("", "grade 29 #", 0, 9, Rows.ARGUMENT);
    }

    private static void spring() {
        Doc.says("Promise 3", "Builds a spring switch, changes its limit, or takes it away.");
        Rows.due("spring 3 7", "section 3 1", 7);
        Rows.due("spring 3 7", "count 2", 1);
        Rows.due("spring 3 7, spring 3 8", "section 3 1", 8);
        Rows.due("spring 3 7, spring 3 8", "count 2", 1);
        Rows.due("spring 3 7, spring 3 0", "section 3 1", 0);
        Rows.due("spring 3 7, spring 3 0", "count 2", 0);
        Doc.says("Promise 3", "Undoable.");
        Rows.due("spring 3 7", "count 9", 1);
        Rows.due("spring 3 0", "count 9", 1);
        Rows.due("spring 3 7, spring 3 0, undo", "section 3 1", 7);
        Doc.says("Promise 3", "section: 1 to 29");
        Rows.due("", "spring 1 5", 0);
        Rows.due("", "spring 29 5", 0);
        Doc.says("Promise 3", "limit: 1 to 40; 0 to take the switch away");
        Rows.due("", "spring 5 1", 0);
        Rows.due("", "spring 5 40", 0);
        Rows.due("spring 5 40", "spring 5 0", 40);
        Rows.due("spring 5 40, spring 5 0", "spring 5 1", 0);
        Doc.says("Promise 3", "Returns the previous limit; 0 if there was no switch.");
        Rows.due("spring 5 1", "spring 5 40", 1);
        Rows.due("spring 5 40", "spring 5 40", 40);
        Rows.due("", "spring 5 0", 0);
        Rows.due("spring 4 9", "spring 5 9", 0);
    }

    private static void springThrows() {
        Doc.says("Promise 3", "Throws IndexOutOfBoundsException if there is no such section");
        Rows.range("", "spring # 40", 1, 29, Rows.INDEX);
        Rows.due("", "spring 0 0", Rows.INDEX);
        Rows.due("", "spring 0 41", Rows.INDEX);
        Rows.due(FOUR_SWITCHES, "spring 0 1", Rows.INDEX);
        Rows.due(FOUR_SWITCHES, "spring 30 1", Rows.INDEX);
        Doc.says("Promise 3", "Throws IllegalArgumentException if limit is out of range");
        Rows.range("", "spring 1 #", 0, 40, Rows.ARGUMENT);
        Rows.range("spring 29 3", "spring 29 #", 0, 40, Rows.ARGUMENT);
        Rows.due(FOUR_SWITCHES, "spring 7 41", Rows.ARGUMENT);
        Rows.due(FOUR_SWITCHES, "spring 7 -1", Rows.ARGUMENT);
        Doc.says("Promise 3", "Throws IllegalStateException if there are 4 switches,"
                + " and limit is not 0, and the section has none");
        Rows.due(FOUR_SWITCHES, "spring 2 1", Rows.STATE);
        Rows.due(FOUR_SWITCHES, "spring 28 40", Rows.STATE);
        Rows.due(FOUR_SWITCHES, "spring 28 0", 0);
        Rows.due(FOUR_SWITCHES, "spring 29 1", 40);
        Rows.due(FOUR_SWITCHES, "spring 1 40", 1);
        Rows.due(FOUR_SWITCHES, "spring 5 0", 5);
        Rows.due(FOUR_SWITCHES + ", spring 5 0", "spring 28 40", 0);
        Rows.due(FOUR_SWITCHES + ", spring 5 0, spring 28 40", "spring 5 5", Rows.STATE);
        Rows.due(FOUR_SWITCHES + ", undo", "spring 28 40", 0);
    }

    private static void set() {
        Doc.says("Promise 9", "Changes a setting.");
        Rows.due("set 0 5", "count 11", 5);
        Rows.due("set 1 20", "count 12", 20);
        Rows.due("set 2 4", "count 13", 4);
        Rows.due("set 0 5", "count 12", 6);
        Rows.due("set 0 5", "count 13", 1);
        Doc.says("Promise 9", "Undoable.");
        Rows.due("set 0 5", "count 9", 1);
        Rows.due("set 0 2", "count 9", 1);
        Rows.due("set 0 5, undo", "count 11", 2);
        Rows.due("set 2 0, undo", "count 13", 1);
        Doc.says("Promise 9", "setting: 0 to 2");
        Rows.due("", "set 0 3", 2);
        Rows.due("", "set 2 3", 1);
        Doc.says("Promise 9", "value: the new value");
        Rows.due("set 0 0", "count 11", 0);
        Rows.due("set 1 1", "count 12", 1);
        Rows.due("set 2 0", "count 13", 0);
        Doc.says("Promise 9", "Returns the previous value.");
        Rows.due("", "set 0 0", 2);
        Rows.due("", "set 1 1", 6);
        Rows.due("", "set 2 0", 1);
        Rows.due("set 0 5", "set 0 0", 5);
        Rows.due("set 1 20", "set 1 20", 20);
        Rows.due("set 2 0", "set 2 4", 0);
        Doc.says("Promise 9", "Throws IndexOutOfBoundsException if there is no such setting");
        Rows.range("", "set # 1", 0, 2, Rows.INDEX);
        Rows.due("", "set 3 21", Rows.INDEX);
        Rows.due("", "set -1 -1", Rows.INDEX);
        Doc.says("Promise 9", "Throws IllegalArgumentException if value is out of range");
        Rows.range("", "set 0 #", 0, 5, Rows.ARGUMENT);
        Rows.range("", "set 1 #", 1, 20, Rows.ARGUMENT);
        Rows.range("", "set 2 #", 0, 4, Rows.ARGUMENT);
    }
}
