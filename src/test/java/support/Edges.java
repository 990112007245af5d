import java.util.HashSet;
import java.util.Set;
import java.util.TreeSet;
import java.util.function.IntFunction;

/**
 * Tests told as runs of calls (see Run): each answer as it is due, by AnyTwoBells and by the naive bells, no more calls
 * than an object is promised for, and calls that must change nothing do so (see Twins).
 */
final class Edges {
    private static final Set<Integer> promises = new TreeSet<>();
    private static final Set<String> names = new HashSet<>();
    private static int passed = 0;
    private static int failed = 0;

    /** A boundary of a promise, by the document's words. */
    static void edge(int promise, String what, String text) {
        note(promise, what, wrongIn(Run.of(text)));
    }

    /** A boundary that no run of calls can show. */
    static void holds(int promise, String what, boolean so) {
        note(promise, what, so ? "" : "it is not so");
    }

    private static void note(int promise, String what, String wrong) {
        promises.add(promise);
        String name = "promise " + promise + ": " + what;
        if (!names.add(name)) {
            throw new IllegalArgumentException("told twice: " + name);
        }
        if (wrong.isEmpty()) {
            passed++;
        } else {
            failed++;
            System.out.println(name + ": " + wrong);
        }
    }

    /** Lines of a run, told for each number. */
    static String each(int from, int to, IntFunction<String> told) {
        StringBuilder all = new StringBuilder();
        for (int k = from; k <= to; k++) {
            all.append(told.apply(k)).append('\n');
        }
        return all.toString();
    }

    private static String wrongIn(Run run) {
        if (run.steps.size() > Calls.OF_AN_OBJECT) {
            return run.steps.size() + " calls of one object";
        }
        String wrong = wrongAnswer(new AnyTwoBells(), run);
        if (!wrong.isEmpty()) {
            return wrong;
        }
        wrong = wrongAnswer(new NaiveBells(), run);
        if (!wrong.isEmpty()) {
            return "the naive bells: " + wrong;
        }
        return changedByMistake(run);
    }

    private static String wrongAnswer(Object bells, Run run) {
        int dues = 0;
        StringBuilder told = new StringBuilder();
        for (Run.Step step : run.steps) {
            long got = Calls.ask(bells, step.call, step.with);
            told.append(step).append(' ');
            if (step.asked && got != step.due) {
                return told + "answered " + got + ", due is " + step.due;
            }
            dues += step.asked ? 1 : 0;
        }
        return dues > 0 ? "" : "nothing is due";
    }

    private static String changedByMistake(Run run) {
        Set<String> asked = new HashSet<>();
        for (int k = 0; k < run.steps.size(); k++) {
            Run.Step step = run.steps.get(k);
            // what was answered well by a call that only asks need not be looked at again for each number
            boolean onceOnly = Twins.onlyAsks(step) && !(step.asked && step.due < 0);
            if (Twins.mustChangeNothing(step) && (!onceOnly || asked.add(step.call))) {
                String differs = Twins.difference(run.steps, k);
                if (!differs.isEmpty()) {
                    return step + " should change nothing, but " + differs;
                }
            }
        }
        return "";
    }

    /** Tells how it went, and ends the machine with 1 if something failed, or one of the promises has no edge. */
    static void close(int first, int last) {
        for (int promise = first; promise <= last; promise++) {
            if (!promises.contains(promise)) {
                failed++;
                System.out.println("promise " + promise + " has no edge");
            }
        }
        System.out.println(passed + " passed, " + failed + " failed");
        if (failed != 0) {
            System.exit(1);
        }
    }

    private Edges() {
    }
}
