import java.util.ArrayList;
import java.util.List;

/** Calls that only ask, for all that an object can be asked without a change. */
final class Questions {
    /** How many there are of all, MOST of each bell, and all strokes. */
    static List<Run.Step> table() {
        List<Run.Step> all = new ArrayList<>();
        each(all, "count", 7);
        each(all, "of", 6, 0);
        for (int hour = 0; hour < 24; hour++) {
            for (int bell = 0; bell < 6; bell++) {
                all.add(question("of", 10 * hour + bell, 10));
            }
        }
        return all;
    }

    static List<Run.Step> everything() {
        List<Run.Step> all = table();
        each(all, "of", 6, 1);
        each(all, "of", 6, 2);
        for (int hour = 0; hour < 24; hour++) {
            for (int other = hour + 1; other < 24; other++) {
                all.add(question("of", 100 * hour + other, 20));
            }
        }
        each(all, "tells", 4);
        each(all, "gap", 2);
        each(all, "strokes", 105);
        each(all, "odds", 24, 0);
        each(all, "odds", 24, 1);
        each(all, "alarm", 6);
        each(all, "begins", 2);
        each(all, "trace", 24);
        all.addAll(Run.of("bears() kept() odds(-1, 0) odds(-1, 1) greedy(-1) least(-1) rest()").steps);
        for (int shelf = 0; shelf < 6; shelf++) {
            for (int i : new int[] {0, 1, 2, 3, 4, 5, 30, 58, 59}) {
                all.add(question("element", shelf, i));
            }
        }
        for (int shelf = 0; shelf < 6; shelf++) {
            for (int kind = 0; kind < 8; kind++) {
                all.add(question("taken", shelf, kind));
            }
        }
        return all;
    }

    private static Run.Step question(String call, long... with) {
        return new Run.Step(call, with, false, 0, false);
    }

    private static void each(List<Run.Step> all, String call, int below) {
        for (int first = 0; first < below; first++) {
            all.add(question(call, first));
        }
    }

    private static void each(List<Run.Step> all, String call, int below, int second) {
        for (int first = 0; first < below; first++) {
            all.add(question(call, first, second));
        }
    }

    private Questions() {
    }
}
