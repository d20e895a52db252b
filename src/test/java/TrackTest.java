/** Promises 1 to 3 and 9: a new object, grade, spring, set. */
public final class TrackTest {
    public static void main(String[] args) {
        newObject();
        grades();
        springs();
        settings();
        Check.end();
    }

    private static void newObject() {
        OreRailway x = new OreRailway();
        for (int section = 0; section < 30; section++) {
            int s = section;
            Check.due("new: grade of " + s, 3, () -> x.section(s, 0));
            for (int what = 1; what <= 4; what++) {
                int w = what;
                Check.due("new: section " + s + ", " + w, 0, () -> x.section(s, w));
            }
        }
        int[] counts = {0, 0, 0, 0, 0, 0, 0, 1, 0, 0, 0, 2, 6, 1};
        for (int what = 0; what <= 13; what++) {
            int w = what;
            Check.due("new: count " + w, counts[w], () -> x.count(w));
        }
        for (int state = 0; state <= 4; state++) {
            int s = state;
            Check.due("new: cars in state " + s, 0, () -> x.cars(s));
        }
        Check.due("new: rolling", OreRailway.NONE, () -> x.rolling(0));
        Check.due("new: firstError", 0, x::firstError);
        Check.due("new: meanSpeed", 0, x::meanSpeed);
        Check.refuses("new: undo", IllegalStateException.class, x::undo);
        Check.refuses("new: goBack(0)", IllegalStateException.class, () -> x.goBack(0));
        Check.refuses("new: goBack(1)", IllegalStateException.class, () -> x.goBack(1));
        x.grade(0, 9);
        x.car();
        OreRailway y = new OreRailway();
        Check.due("objects are apart: grade", 3, () -> y.section(0, 0));
        Check.due("objects are apart: cars", 0, () -> y.count(1));
    }

    private static void grades() {
        OreRailway x = new OreRailway();
        Check.due("grade(0, 9)", 3, () -> x.grade(0, 9));
        Check.due("grade(0, 0)", 9, () -> x.grade(0, 0));
        Check.due("grade(29, 5)", 3, () -> x.grade(29, 5));
        Check.due("grade of 0", 0, () -> x.section(0, 0));
        Check.due("grade of 29", 5, () -> x.section(29, 0));
        Check.due("grade of 28", 3, () -> x.section(28, 0));
        Check.due("grade saves", 3, () -> x.count(9));
        Check.due("grade(0, 0) again", 0, () -> x.grade(0, 0));
        Check.due("grade saves though nothing changes", 4, () -> x.count(9));
        Check.refuses("grade(-1, 0)", IndexOutOfBoundsException.class, () -> x.grade(-1, 0));
        Check.refuses("grade(30, 0)", IndexOutOfBoundsException.class, () -> x.grade(30, 0));
        Check.refuses("grade(30, 10)", IndexOutOfBoundsException.class, () -> x.grade(30, 10));
        Check.refuses("grade(0, -1)", IllegalArgumentException.class, () -> x.grade(0, -1));
        Check.refuses("grade(0, 10)", IllegalArgumentException.class, () -> x.grade(0, 10));
        x.undo();
        x.undo();
        Check.due("grade undone", 3, () -> x.section(29, 0));
    }

    private static void springs() {
        OreRailway x = new OreRailway();
        Check.due("spring(1, 1)", 0, () -> x.spring(1, 1));
        Check.due("spring(29, 40)", 0, () -> x.spring(29, 40));
        Check.due("switches with the least and the greatest limit", 2, () -> x.count(2));
        Check.due("spring(1, 7)", 1, () -> x.spring(1, 7));
        Check.due("limit of 1", 7, () -> x.section(1, 1));
        Check.due("limit of 29", 40, () -> x.section(29, 1));
        Check.due("two switches", 2, () -> x.count(2));
        Check.due("spring(5, 5)", 0, () -> x.spring(5, 5));
        Check.due("spring(6, 6)", 0, () -> x.spring(6, 6));
        Check.due("four switches", 4, () -> x.count(2));
        Check.refuses("a fifth", IllegalStateException.class, () -> x.spring(7, 1));
        Check.refuses("a fifth, wrong limit", IllegalArgumentException.class,
                () -> x.spring(7, 41));
        Check.refuses("spring(0, 5)", IndexOutOfBoundsException.class, () -> x.spring(0, 5));
        Check.refuses("spring(0, 0)", IndexOutOfBoundsException.class, () -> x.spring(0, 0));
        Check.refuses("spring(30, 41)", IndexOutOfBoundsException.class, () -> x.spring(30, 41));
        Check.refuses("spring(-1, 5)", IndexOutOfBoundsException.class, () -> x.spring(-1, 5));
        Check.refuses("spring(1, 41)", IllegalArgumentException.class, () -> x.spring(1, 41));
        Check.refuses("spring(1, -1)", IllegalArgumentException.class, () -> x.spring(1, -1));
        Check.due("no switch, none taken away", 0, () -> x.spring(7, 0));
        Check.due("a limit changes among four", 5, () -> x.spring(5, 9));
        Check.due("saved", 6, () -> x.count(9));
        Check.due("spring(5, 0)", 9, () -> x.spring(5, 0));
        Check.due("three switches", 3, () -> x.count(2));
        Check.due("no limit left", 0, () -> x.section(5, 1));
        Check.due("room for another", 0, () -> x.spring(7, 1));
        x.undo();
        x.undo();
        Check.due("spring undone", 9, () -> x.section(5, 1));
    }

    private static void settings() {
        OreRailway x = new OreRailway();
        int[] first = {2, 6, 1};
        int[] least = {0, 1, 0};
        int[] greatest = {5, 20, 4};
        for (int setting = 0; setting < 3; setting++) {
            int s = setting;
            Check.due("set " + s + " to least", first[s], () -> x.set(s, least[s]));
            Check.due("count, least " + s, least[s], () -> x.count(11 + s));
            Check.due("set " + s + " to greatest", least[s], () -> x.set(s, greatest[s]));
            Check.due("count, greatest " + s, greatest[s], () -> x.count(11 + s));
            Check.refuses("set " + s + " below", IllegalArgumentException.class,
                    () -> x.set(s, least[s] - 1));
            Check.refuses("set " + s + " above", IllegalArgumentException.class,
                    () -> x.set(s, greatest[s] + 1));
        }
        Check.refuses("set(-1, 1)", IndexOutOfBoundsException.class, () -> x.set(-1, 1));
        Check.refuses("set(3, 99)", IndexOutOfBoundsException.class, () -> x.set(3, 99));
        Check.due("set saves", 6, () -> x.count(9));
        x.undo();
        Check.due("set undone", 0, () -> x.count(13));
    }
}
