import java.util.Arrays;
import java.util.List;

/** Runs of 512 calls, drawn from told seeds, each answer against the one of the naive bells. */
public final class RandomRunsTest {
    private static final int RUNS = 6000, STEPS_UNTIL = 420;
    private static final String[] CALLS = {
        "bell", "set", "strike", "strikes", "most", "mix", "feed", "law", "lay", "line", "sum", "of",
        "tells", "gap", "bears", "hear", "which", "alone", "strokes", "kept", "odds", "least", "greedy", "alarm",
        "night", "begins", "rest", "undo", "redo", "body", "act", "trace", "keep", "row", "put", "element", "shift",
        "taken", "count"
    };
    /** How often each call is drawn, in four moods: the table, the telling, acts and shelves, changes. */
    private static final int[][] MOODS = {
        {2, 3, 20, 2, 4, 4, 1, 1, 2, 4, 3, 5, 3, 2, 2, 3, 1, 3, 5, 1, 2, 1, 1, 1, 2, 2, 1, 9, 6, 0, 0, 0, 0, 1, 2, 0, 0, 0, 4},
        {1, 3, 9, 0, 2, 6, 0, 0, 1, 4, 2, 0, 4, 3, 3, 9, 3, 2, 2, 3, 3, 2, 2, 3, 5, 5, 3, 1, 1, 0, 0, 0, 0, 0, 0, 0, 0, 0, 1},
        {2, 1, 2, 6, 1, 0, 1, 1, 1, 0, 0, 3, 0, 0, 0, 1, 1, 0, 2, 0, 0, 0, 0, 0, 0, 0, 0, 1, 1, 5, 8, 8, 6, 5, 14, 10, 9, 6, 6},
        {1, 0, 60, 0, 9, 0, 0, 0, 0, 0, 0, 4, 1, 0, 0, 0, 0, 0, 2, 0, 0, 0, 0, 0, 0, 0, 0, 14, 7, 0, 0, 0, 0, 0, 0, 0, 0, 0, 4}
    };
    private static final List<Run.Step> QUESTIONS = Questions.everything();

    private static long seed;
    private static long calls = 0;
    private static int passed = 0;
    private static int failed = 0;

    private final AnyTwoBells x = new AnyTwoBells();
    private final NaiveBells y = new NaiveBells();
    private final StringBuilder told = new StringBuilder();
    private final boolean small;
    private int asked = 0;
    private boolean wrong = false;

    public static void main(String[] args) {
        for (int run = 0; run < RUNS && failed == 0; run++) {
            seed = run * 7919L + 17;
            RandomRunsTest drawn = new RandomRunsTest();
            drawn.run(MOODS[run % 4]);
            if (drawn.wrong) {
                failed++;
                System.out.println("run " + run + ": " + drawn.told);
            } else {
                passed++;
            }
        }
        System.out.println(calls + " calls in runs drawn");
        System.out.println(passed + " passed, " + failed + " failed");
        if (failed != 0) {
            System.exit(1);
        }
    }

    private static int draw(int below) {
        seed = seed * 6364136223846793005L + 1442695040888963407L;
        return (int) ((seed >>> 33) % below);
    }

    private static int wild() {
        int[] some = {-1, -2, Integer.MIN_VALUE, Integer.MAX_VALUE, 0, 1, 5, 6, 7, 12, 24, 25, 60, 61, 100, 101, 105, 1000000, -100};
        return some[draw(some.length)];
    }

    private static int near(int below) {
        return draw(40) == 0 ? wild() : draw(below);
    }

    /** Some runs are for few bells and hours, so that LEAST and GREEDY have something to find. */
    private RandomRunsTest() {
        small = draw(2) == 0;
    }

    private void run(int[] weights) {
        int bells = small ? 1 + draw(3) : 1 + draw(6);
        for (int b = 0; b < bells; b++) {
            ask("bell", small ? 1 + draw(4) : 1 + draw(15), draw(100) * 1000 + draw(101));
        }
        if (draw(3) != 0) {
            ask("set", 0, small ? 2 + draw(3) : 2 + draw(23));
        }
        if (draw(2) == 0) {
            ask("set", 1, 1 + draw(6));
        }
        int all = Arrays.stream(weights).sum();
        while (asked < STEPS_UNTIL && !wrong) {
            int at = draw(all), which = 0;
            while (at >= weights[which]) {
                at -= weights[which++];
            }
            step(CALLS[which]);
        }
        while (asked < Calls.OF_AN_OBJECT && !wrong) {
            Run.Step question = QUESTIONS.get(draw(QUESTIONS.size()));
            ask(draw(30) == 0 ? "undo" : question.call, question.with);
        }
    }

    /** Asks both, unless the object has had all the calls that the document counts. */
    private void ask(String call, long... drawn) {
        if (asked == Calls.OF_AN_OBJECT) {
            return;
        }
        asked++;
        calls++;
        long[] with = Arrays.copyOf(drawn, Calls.numbersOf(call));
        long got = Calls.ask(x, call, with);
        long want = Calls.ask(y, call, with);
        told.append(call).append(Arrays.toString(with)).append(' ');
        if (got != want) {
            wrong = true;
            System.out.println(call + Arrays.toString(with) + " answered " + got + ", due is " + want);
        }
    }

    private void step(String call) {
        int hours = y.count(1), bells = Math.max(1, y.count(0)), bodies = Math.max(1, y.count(5));
        int hb = near(hours) * 10 + draw(bells);
        int gh = near(hours) * 100 + draw(hours);
        switch (call) {
            case "bell": if (draw(6) == 0) ask(call, near(small ? 4 : 17), near(100) * 1000 + draw(103)); break;
            case "set":
                if (draw(3) == 0) ask(call, 0, small ? 1 + near(4) : near(26));
                else ask(call, draw(10) == 0 ? near(4) : 1, near(8));
                break;
            case "strike": ask(call, hb, near(small ? 4 : 12)); break;
            case "strikes":
                if (draw(2) == 0) rowOfBytes();
                ask(call, near(6), near(8) - 1, near(bells), near(hours + 2));
                break;
            case "most": ask(call, near(bells), near(17)); break;
            case "mix": ask(call, gh, draw(6) == 0 ? near(3) : 1); break;
            case "feed": feedLaw(); break;
            case "of":
                int what = new int[] {0, 1, 2, 10, 10, 20, 20, near(30)}[draw(8)];
                ask(call, what == 10 ? hb : what == 20 ? gh : near(bells), what);
                break;
            case "line": ask(call, near(bells), near(100) * 10000 + draw(100) * 100 + 1 + draw(17)); break;
            case "sum": ask(call, near(bells), near(bells) * 10 + draw(bells)); break;
            case "tells": ask(call, near(4)); break;
            case "gap": ask(call, near(2)); break;
            case "night": case "begins": ask(call, draw(12) == 0 ? near(2) : 1 - draw(2) * draw(2)); break;
            case "hear": hear(hours, bells); break;
            case "alone": ask(call, near(bells), near(8) - 1); break;
            case "strokes": ask(call, draw(2) == 0 ? 100 + draw(6) : near(hours)); break;
            case "undo": case "redo":
                for (int k = draw(6) == 0 ? draw(45) : 1; k > 0; k--) ask(call);
                break;
            case "odds": ask(call, near(hours + 1) - 1, near(2)); break;
            case "least": case "greedy": if (small || draw(8) == 0) ask(call, draw(3) == 0 ? -1 : hb); break;
            case "alarm": ask(call, near(bells)); break;
            case "body": case "taken": onShelves(call, bodies); break;
            case "act": case "trace": case "keep": case "row": case "put": case "element": case "shift": onShelves(call, bodies); break;
            case "count": ask(call, near(7)); break;
            default: ask(call);
        }
    }

    private void onShelves(String call, int bodies) {
        switch (call) {
            case "body": ask(call, near(8)); break;
            case "act": ask(call, near(bodies), near(4), draw(4) == 0 ? draw(2147483647) * (1 - 2 * draw(2)) : near(100)); break;
            case "trace": ask(call, near(9)); break;
            case "keep": ask(call, near(6), near(bodies + 1) - 1); break;
            case "row": ask(call, near(6), draw(3) * draw(3) == 0 ? 0 : near(5), near(10)); break;
            case "put": ask(call, near(6), near(8), draw(4) == 0 ? (long) draw(2147483647) * draw(2147483647) : near(18) - 1); break;
            case "element": ask(call, near(6), near(8)); break;
            case "shift": ask(call, near(6), near(6), near(6), near(6), near(6)); break;
            default: ask(call, near(6), near(8));
        }
    }

    private void rowOfBytes() {
        int shelf = draw(6);
        ask("row", shelf, 0, draw(12));
        for (int k = 0; k < 12; k++) {
            ask("put", shelf, k, draw(12) == 0 ? near(300) : draw(3));
        }
    }

    /** A row, mostly as some hour strikes it, so that some hours are left that may have begun the night. */
    private void hear(int hours, int bells) {
        if (draw(5) == 0) {
            ask("hear", near(17) - 1);
            return;
        }
        int hour = draw(hours);
        for (int b = 0; b < bells; b++) {
            ask("hear", draw(3) == 0 ? -1 : Math.max(0, y.of(hour * 10 + b, 10)));
        }
        ask(draw(3) == 0 ? "night" : "which", 1);
    }

    private void feedLaw() {
        StringBuilder text = new StringBuilder();
        int lines = 1 + draw(3);
        for (int k = 0; k < lines; k++) {
            if (k > 0) text.append(';');
            expression(text, 2);
            if (draw(2) == 0) {
                text.append('?');
                expression(text, 2);
            }
        }
        int flaws = draw(2) * draw(3);
        String signs = "0123456789hbmnpq+-*/%<=>!()|&;? x";
        for (int k = 0; k < flaws; k++) {
            int at = draw(text.length() + 1);
            char sign = signs.charAt(draw(signs.length()));
            if (draw(3) == 0) text.setLength(Math.min(at + 1, text.length()));
            else if (draw(2) == 0 || at == text.length()) text.insert(at, sign);
            else text.setCharAt(at, sign);
        }
        int length = Math.min(text.length(), draw(6) == 0 ? 121 : 60);
        for (int k = 0; k < length; k++) {
            ask("feed", text.charAt(k));
        }
        ask("law");
        ask("lay");
        for (int h = 0; h < y.count(1); h++) {
            ask("strokes", h);
        }
    }

    private static void expression(StringBuilder text, int depth) {
        int parts = 1 + draw(3);
        for (int k = 0; k < parts; k++) {
            if (k > 0) text.append("+-*/%+-*<=>|&".charAt(draw(13)));
            int kind = draw(depth > 0 ? 7 : 4);
            if (kind == 0) text.append(draw(draw(2) == 0 ? 10 : 10000));
            else if (kind < 4) text.append("hbmnpq".charAt(draw(6)));
            else if (kind == 4) {
                text.append(draw(2) == 0 ? '!' : '-');
                text.append("hbmnpq".charAt(draw(6)));
            } else {
                text.append('(');
                expression(text, depth - 1);
                text.append(')');
            }
        }
    }
}
