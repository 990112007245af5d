import java.util.ArrayList;
import java.util.Collections;
import java.util.List;
import java.util.Set;

/**
 * Whether a call has changed nothing: of two objects with the same run one leaves the call out, and both must answer
 * alike whatever is asked then, also what can only be seen by calls that change something (the tape, the law, the row
 * that is just being told, the night, changes undone and done again).
 */
final class Twins {
    private static final Set<String> ONLY_ASKING = Set.of("of", "tells", "gap", "bears", "alone", "strokes", "kept", "odds", "least",
        "greedy", "alarm", "begins", "rest", "trace", "element", "taken", "count");

    /** Calls that come first, and calls that then ask. */
    private static final class Probe {
        final List<Run.Step> lead;
        final List<Run.Step> questions;

        Probe(String lead, List<Run.Step> questions) {
            this.lead = Run.of(lead).steps;
            this.questions = questions;
        }
    }

    private static final List<Run.Step> TABLE = Questions.table();
    private static final List<Probe> PROBES = List.of(
        new Probe("", Questions.everything()),
        new Probe("", backwards(Questions.everything())),
        new Probe("which()", TABLE.subList(0, 10)),
        new Probe("times 6 hear(-1)\nwhich()\ntimes 6 hear(0)\nwhich()", TABLE.subList(0, 10)),
        new Probe("night(1)", Run.of("begins(0) begins(1) which()").steps),
        new Probe("times 13 night(1)", Run.of("begins(0) begins(1) which()").steps),
        new Probe("lay()", TABLE),
        new Probe("law()\nlay()", TABLE),
        new Probe("tape h\nlaw()\nlay()", TABLE),
        new Probe("undo()", TABLE),
        new Probe("times 41 undo()", TABLE),
        new Probe("redo()", TABLE),
        new Probe("times 41 redo()", TABLE),
        new Probe("times 6 bell(15, 5005)\nset(0, 24)", TABLE),
        new Probe("times 6 bell(15, 5005)\nlay()", TABLE),
        new Probe("body(0)", Run.of("act(0, 3, 1) count(6) act(1, 3, 1) count(6) act(49, 3, 1) count(5)").steps));

    /** Whether a call of a run must change nothing: the run says so, it only asks, is refused, or tells what is so already. */
    static boolean mustChangeNothing(Run.Step step) {
        if (step.same || onlyAsks(step)) {
            return true;
        }
        if (!step.asked || step.call.equals("act") || step.call.equals("law")) {
            return false;
        }
        boolean tellsTheSame = (step.call.equals("strike") || step.call.equals("most")) && step.with[1] == step.due;
        boolean noneCame = step.call.equals("strikes") && step.due == 0;
        return step.due < 0 || tellsTheSame || noneCame;
    }

    /** So that a question that changes something by mistake can't hide the same mistake of the call left out. */
    private static List<Run.Step> backwards(List<Run.Step> questions) {
        List<Run.Step> all = new ArrayList<>(questions);
        Collections.reverse(all);
        return all;
    }

    static boolean onlyAsks(Run.Step step) {
        return ONLY_ASKING.contains(step.call);
    }

    /** What differs, if the call at that place is left out; "" if nothing does. */
    static String difference(List<Run.Step> steps, int left) {
        for (Probe probe : PROBES) {
            int most = Calls.OF_AN_OBJECT - left - 1 - probe.lead.size();
            if (most < 1) {
                throw new IllegalArgumentException("a run too long to be asked about its twins: " + steps.get(left));
            }
            for (int from = 0; from < probe.questions.size(); from += most) {
                List<Run.Step> asked = new ArrayList<>(probe.lead);
                asked.addAll(probe.questions.subList(from, Math.min(from + most, probe.questions.size())));
                String differs = difference(steps, left, asked);
                if (!differs.isEmpty()) {
                    return differs;
                }
            }
        }
        return "";
    }

    private static String difference(List<Run.Step> steps, int left, List<Run.Step> asked) {
        AnyTwoBells with = new AnyTwoBells();
        AnyTwoBells without = new AnyTwoBells();
        for (int k = 0; k <= left; k++) {
            Run.Step step = steps.get(k);
            Calls.ask(with, step.call, step.with);
            if (k < left) {
                Calls.ask(without, step.call, step.with);
            }
        }
        StringBuilder so = new StringBuilder();
        for (Run.Step step : asked) {
            long one = Calls.ask(with, step.call, step.with);
            long other = Calls.ask(without, step.call, step.with);
            so.append(step).append(' ');
            if (one != other) {
                return so + "answers " + one + ", without that call " + other;
            }
        }
        return "";
    }

    private Twins() {
    }
}
