import java.util.ArrayList;
import java.util.List;

/** What the queries tell of an object, as a text, in less than 300 calls. */
final class View {
    private static final int SAVED = 9;
    private static final int BUFFER = 10;

    private View() {
    }

    /** All that belongs to the state: not the buffer, nor the saved states and the snapshots. */
    static String ofState(OreRailway x) {
        StringBuilder all = new StringBuilder();
        for (int what = 0; what <= 13; what++) {
            if (what != SAVED && what != BUFFER) {
                all.append(x.count(what)).append(' ');
            }
        }
        for (int section = 0; section < 30; section++) {
            for (int what = 0; what <= 4; what++) {
                all.append(x.section(section, what)).append(' ');
            }
        }
        for (int car = 0; car < x.count(1); car++) {
            for (int what = 0; what <= 9; what++) {
                all.append(x.carOf(car, what)).append(' ');
            }
        }
        for (int rank = 0; rank <= 8; rank++) {
            all.append(x.rolling(rank)).append(' ');
        }
        for (int what = 0; what <= 4; what++) {
            all.append(x.cars(what)).append(' ').append(x.ifRun(60, what)).append(' ');
        }
        return all.append(x.meanSpeed()).toString();
    }

    static String ofAll(OreRailway x) {
        return ofState(x) + ' ' + x.count(SAVED) + ' ' + x.count(BUFFER) + ' ' + x.firstError();
    }

    /**
     * All that a new object holds after the calls, the hidden parts too: the saved states, the
     * snapshots, the signs in the buffer. Each comes from an object of its own.
     */
    static List<String> ofEverything(List<String> calls) {
        List<String> all = new ArrayList<>();
        all.add(ofAll(Script.played(calls)));
        for (int depth = 1; depth <= 6; depth++) {
            all.add(afterMore(calls, "undo", depth));
        }
        all.add(afterMore(calls, "goBack 0", 1));
        all.add(afterMore(calls, "goBack 1", 1));
        all.add(afterMore(calls, "execute", 1));
        return all;
    }

    private static String afterMore(List<String> calls, String call, int times) {
        OreRailway x = Script.played(calls);
        StringBuilder answers = new StringBuilder();
        for (int time = 0; time < times; time++) {
            answers.append(Script.call(x, call)).append(' ');
        }
        return answers + ofAll(x);
    }
}
