/** Long runs of calls, drawn from told seeds, each answer against the one of the naive bells. */
public final class RandomRunsTest {
    private static final String[] CALLS = {
        "bell", "set", "strike", "strikes", "most", "mix", "feed", "law", "lay", "line", "sum", "of",
        "tells", "gap", "bears", "hear", "which", "alone", "strokes", "kept", "odds", "least", "greedy", "alarm",
        "night", "begins", "rest", "undo", "redo", "body", "act", "trace", "keep", "row", "put", "element", "shift",
        "taken", "count"
    };
    /** How often each call is drawn, in four moods: the table, the telling, acts and shelves, changes. */
    private static final int[][] MOODS = {
        {2, 3, 20, 2, 4, 4, 1, 1, 2, 4, 3, 5, 3, 2, 2, 3, 1, 3, 5, 1, 2, 1, 1, 1, 2, 2, 1, 9, 6, 0, 0, 0, 0, 1, 2, 0, 0, 0, 4},
        {1, 3, 9, 0, 2, 6, 0, 0, 1, 4, 2, 0, 4, 3, 3, 9, 3, 2, 2, 3, 3, 2, 2, 3, 5, 5, 3, 1, 1, 0, 0, 0, 0, 0, 0, 0, 0, 0, 1},
        {2, 1, 2, 6, 1, 0, 1, 1, 1, 0, 0, 3, 0, 0, 0, 1, 1, 0, 2, 0, 0, 0, 0, 0, 0, 0, 0, 1, 1, 5, 8, 8, 6, 5, 14, 10, 9, 6, 6},
        {1, 0, 60, 0, 9, 0, 0, 0, 0, 0, 0, 4, 1, 0, 0, 0, 0, 0, 2, 0, 0, 0, 0, 0, 0, 0, 0, 14, 7, 0, 0, 0, 0, 0, 0, 0, 0, 0, 4}
    };

    private static long seed;
    private static long calls = 0;
    private static int wrong = 0;

    private static int draw(int below) {
        seed = seed * 6364136223846793005L + 1442695040888963407L;
        return (int) ((seed >>> 33) % below);
    }

    private static int wild() {
        int[] some = {-1, -2, Integer.MIN_VALUE, Integer.MAX_VALUE, 0, 1, 5, 6, 7, 12, 24, 25, 60, 61, 100, 101, 105, 1000000, -100};
        return some[draw(some.length)];
    }

    private static int near(int below) {
        return draw(40) == 0 ? wild() : draw(below);
    }

    public static void main(String[] args) {
        for (int run = 0; run < 2500 && wrong == 0; run++) {
            seed = run * 7919L + 17;
            oneRun(run);
        }
        System.out.println(calls + " calls, " + wrong + " answers are not as due");
        if (wrong != 0) {
            System.exit(1);
        }
    }

    private static void oneRun(int run) {
        AnyTwoBells x = new AnyTwoBells();
        NaiveBells y = new NaiveBells();
        StringBuilder told = new StringBuilder();
        int[] weights = MOODS[run % 4];
        // some runs are for few bells and hours, so that LEAST and GREEDY have something to find
        boolean small = draw(2) == 0;
        int bells = small ? 1 + draw(3) : 1 + draw(6);
        for (int b = 0; b < bells; b++) {
            same(told, x, y, "bell", small ? 1 + draw(4) : 1 + draw(15), draw(100) * 1000 + draw(101), 0, 0, 0);
        }
        if (draw(3) != 0) {
            same(told, x, y, "set", 0, small ? 2 + draw(3) : 2 + draw(23), 0, 0, 0);
        }
        if (draw(2) == 0) {
            same(told, x, y, "set", 1, 1 + draw(6), 0, 0, 0);
        }
        for (int k = 0; k < 400 && wrong == 0; k++) {
            step(told, x, y, weights, small);
        }
        all(told, x, y);
        if (wrong != 0) {
            System.out.println("run " + run + ": " + told);
        }
    }

    /** All that the object tells of its state. */
    private static void all(StringBuilder told, AnyTwoBells x, NaiveBells y) {
        for (int what = 0; what < 7; what++) {
            same(told, x, y, "count", what, 0, 0, 0, 0);
        }
        for (int h = 0; h < 24; h++) {
            for (int b = 0; b < 6; b++) {
                same(told, x, y, "of", 10 * h + b, 10, 0, 0, 0);
                same(told, x, y, "of", b, h % 3, 0, 0, 0);
            }
            for (int g = 0; g < 24; g++) {
                same(told, x, y, "of", 100 * g + h, 20, 0, 0, 0);
            }
        }
        for (int k = 0; k < 360; k++) {
            same(told, x, y, "element", k / 60, k % 60, 0, 0, 0);
        }
        while (x.undo() >= 0 && y.undo() >= 0) {
            same(told, x, y, "count", 4, 0, 0, 0, 0);
        }
        for (int hb = 0; hb < 240; hb++) {
            same(told, x, y, "of", hb, 10, 0, 0, 0);
        }
    }

    private static void step(StringBuilder told, AnyTwoBells x, NaiveBells y, int[] weights, boolean small) {
        int all = 0;
        for (int w : weights) all += w;
        int at = draw(all), which = 0;
        while (at >= weights[which]) at -= weights[which++];
        String call = CALLS[which];
        int hours = x.count(1), bells = Math.max(1, x.count(0)), bodies = Math.max(1, x.count(5));
        int hb = near(hours) * 10 + draw(bells);
        switch (call) {
            case "bell": if (draw(6) == 0) same(told, x, y, call, near(small ? 4 : 17), near(100) * 1000 + draw(103), 0, 0, 0); break;
            case "set":
                if (draw(3) == 0) same(told, x, y, call, 0, small ? 1 + near(4) : near(26), 0, 0, 0);
                else same(told, x, y, call, draw(10) == 0 ? near(4) : 1, near(8), 0, 0, 0);
                break;
            case "strike": same(told, x, y, call, hb, near(small ? 4 : 12), 0, 0, 0); break;
            case "strikes":
                if (draw(2) == 0) sortOfBytes(told, x, y);
                same(told, x, y, call, near(6), near(8) - 1, near(bells), near(hours + 2), 0);
                break;
            case "most": same(told, x, y, call, near(bells), near(17), 0, 0, 0); break;
            case "mix": same(told, x, y, call, near(hours) * 100 + draw(hours), draw(6) == 0 ? near(3) : 1, 0, 0, 0); break;
            case "feed": feedLaw(told, x, y); break;
            case "of":
                int what = new int[] {0, 1, 2, 10, 10, 20, 20, near(30)}[draw(8)];
                same(told, x, y, call, what == 10 ? hb : what == 20 ? near(hours) * 100 + draw(hours) : near(bells), what, 0, 0, 0);
                break;
            case "line": same(told, x, y, call, near(bells), near(100) * 10000 + draw(100) * 100 + 1 + draw(17), 0, 0, 0); break;
            case "sum": same(told, x, y, call, near(bells), near(bells) * 10 + draw(bells), 0, 0, 0); break;
            case "tells": same(told, x, y, call, near(4), 0, 0, 0, 0); break;
            case "gap": case "night": case "begins": same(told, x, y, call, call.equals("gap") || draw(12) == 0 ? near(2) : 1 - draw(2) * draw(2), 0, 0, 0, 0); break;
            case "hear": hear(told, x, y, hours, bells); break;
            case "alone": same(told, x, y, call, near(bells), near(8) - 1, 0, 0, 0); break;
            case "strokes": same(told, x, y, call, draw(2) == 0 ? 100 + draw(6) : near(hours), 0, 0, 0, 0); break;
            case "undo": case "redo":
                for (int k = draw(6) == 0 ? draw(45) : 1; k > 0; k--) same(told, x, y, call, 0, 0, 0, 0, 0);
                break;
            case "odds": same(told, x, y, call, near(hours + 1) - 1, near(2), 0, 0, 0); break;
            case "least": case "greedy": if (small || draw(8) == 0) same(told, x, y, call, draw(3) == 0 ? -1 : hb, 0, 0, 0, 0); break;
            case "alarm": same(told, x, y, call, near(bells), 0, 0, 0, 0); break;
            case "body": same(told, x, y, call, near(8), 0, 0, 0, 0); break;
            case "act":
                same(told, x, y, call, near(bodies), near(4), draw(4) == 0 ? draw(2147483647) * (1 - 2 * draw(2)) : near(100), 0, 0);
                break;
            case "trace": same(told, x, y, call, near(9), 0, 0, 0, 0); break;
            case "keep": same(told, x, y, call, near(6), near(bodies + 1) - 1, 0, 0, 0); break;
            case "row": same(told, x, y, call, near(6), draw(3) * draw(3) == 0 ? 0 : near(5), near(10), 0, 0); break;
            case "put": same(told, x, y, call, near(6), near(8), draw(4) == 0 ? (long) draw(2147483647) * draw(2147483647) : near(18) - 1, 0, 0); break;
            case "element": same(told, x, y, call, near(6), near(8), 0, 0, 0); break;
            case "shift": same(told, x, y, call, near(6), near(6), near(6), near(6), near(6)); break;
            case "taken": same(told, x, y, call, near(6), near(8), 0, 0, 0); break;
            case "count": same(told, x, y, call, near(7), 0, 0, 0, 0); break;
            default: same(told, x, y, call, 0, 0, 0, 0, 0);
        }
    }

    private static void sortOfBytes(StringBuilder told, AnyTwoBells x, NaiveBells y) {
        int shelf = draw(6);
        same(told, x, y, "row", shelf, 0, draw(12), 0, 0);
        for (int k = 0; k < 12; k++) {
            same(told, x, y, "put", shelf, k, draw(12) == 0 ? near(300) : draw(3), 0, 0);
        }
    }

    /** A row, mostly as the hour next in the night strikes it, so that some hours are left that may have begun it. */
    private static void hear(StringBuilder told, AnyTwoBells x, NaiveBells y, int hours, int bells) {
        if (draw(5) == 0) {
            same(told, x, y, "hear", near(17) - 1, 0, 0, 0, 0);
            return;
        }
        int hour = draw(hours);
        for (int b = 0; b < bells; b++) {
            same(told, x, y, "hear", draw(3) == 0 ? -1 : Math.max(0, x.of(hour * 10 + b, 10)), 0, 0, 0, 0);
        }
        same(told, x, y, draw(3) == 0 ? "night" : "which", 1, 0, 0, 0, 0);
    }

    private static void feedLaw(StringBuilder told, AnyTwoBells x, NaiveBells y) {
        StringBuilder text = new StringBuilder();
        int lines = 1 + draw(3);
        for (int k = 0; k < lines; k++) {
            if (k > 0) text.append(';');
            expression(text, 2);
            if (draw(2) == 0) {
                text.append('?');
                expression(text, 2);
            }
        }
        int flaws = draw(2) * draw(3);
        String signs = "0123456789hbmnpq+-*/%<=>!()|&;? x";
        for (int k = 0; k < flaws; k++) {
            int at = draw(text.length() + 1);
            char sign = signs.charAt(draw(signs.length()));
            if (draw(3) == 0) text.setLength(Math.min(at + 1, text.length()));
            else if (draw(2) == 0 || at == text.length()) text.insert(at, sign);
            else text.setCharAt(at, sign);
        }
        int length = Math.min(text.length(), draw(6) == 0 ? 121 : 60);
        for (int k = 0; k < length; k++) {
            same(told, x, y, "feed", text.charAt(k), 0, 0, 0, 0);
        }
        same(told, x, y, "law", 0, 0, 0, 0, 0);
        same(told, x, y, "lay", 0, 0, 0, 0, 0);
        for (int h = 0; h < x.count(1); h++) {
            same(told, x, y, "strokes", h, 0, 0, 0, 0);
        }
    }

    private static void expression(StringBuilder text, int depth) {
        int parts = 1 + draw(3);
        for (int k = 0; k < parts; k++) {
            if (k > 0) text.append("+-*/%+-*<=>|&".charAt(draw(13)));
            int kind = draw(depth > 0 ? 7 : 4);
            if (kind == 0) text.append(draw(draw(2) == 0 ? 10 : 10000));
            else if (kind < 4) text.append("hbmnpq".charAt(draw(6)));
            else if (kind == 4) {
                text.append(draw(2) == 0 ? '!' : '-');
                text.append("hbmnpq".charAt(draw(6)));
            } else {
                text.append('(');
                expression(text, depth - 1);
                text.append(')');
            }
        }
    }

    private static void same(StringBuilder told, AnyTwoBells x, NaiveBells y, String call, int a, int b, long c, int d, int e) {
        long got = answer(x, call, a, b, c, d, e);
        long want = answer(y, call, a, b, c, d, e);
        calls++;
        told.append(call).append('(').append(a).append(',').append(b).append(',').append(c).append(',').append(d).append(',').append(e).append(") ");
        if (got != want) {
            wrong++;
            System.out.println(call + "(" + a + ", " + b + ", " + c + ", " + d + ", " + e + ") answered " + got + ", due is " + want);
        }
    }

    private static long answer(AnyTwoBells x, String call, int a, int b, long c, int d, int e) {
        switch (call) {
            case "bell": return x.bell(a, b);
            case "set": return x.set(a, b);
            case "strike": return x.strike(a, b);
            case "strikes": return x.strikes(a, b, (int) c, d);
            case "most": return x.most(a, b);
            case "mix": return x.mix(a, b);
            case "feed": return x.feed(a);
            case "law": return x.law();
            case "lay": return x.lay();
            case "line": return x.line(a, b);
            case "sum": return x.sum(a, b);
            case "of": return x.of(a, b);
            case "tells": return x.tells(a);
            case "gap": return x.gap(a);
            case "bears": return x.bears();
            case "hear": return x.hear(a);
            case "which": return x.which();
            case "alone": return x.alone(a, b);
            case "strokes": return x.strokes(a);
            case "kept": return x.kept();
            case "odds": return x.odds(a, b);
            case "least": return x.least(a);
            case "greedy": return x.greedy(a);
            case "alarm": return x.alarm(a);
            case "night": return x.night(a);
            case "begins": return x.begins(a);
            case "rest": return x.rest();
            case "undo": return x.undo();
            case "redo": return x.redo();
            case "body": return x.body(a);
            case "act": return x.act(a, b, (int) c);
            case "trace": return x.trace(a);
            case "keep": return x.keep(a, b);
            case "row": return x.row(a, b, (int) c);
            case "put": return x.put(a, b, c);
            case "element": return x.element(a, b);
            case "shift": return x.shift(a, b, (int) c, d, e);
            case "taken": return x.taken(a, b);
            default: return x.count(a);
        }
    }

    private static long answer(NaiveBells y, String call, int a, int b, long c, int d, int e) {
        switch (call) {
            case "bell": return y.bell(a, b);
            case "set": return y.set(a, b);
            case "strike": return y.strike(a, b);
            case "strikes": return y.strikes(a, b, (int) c, d);
            case "most": return y.most(a, b);
            case "mix": return y.mix(a, b);
            case "feed": return y.feed(a);
            case "law": return y.law();
            case "lay": return y.lay();
            case "line": return y.line(a, b);
            case "sum": return y.sum(a, b);
            case "of": return y.of(a, b);
            case "tells": return y.tells(a);
            case "gap": return y.gap(a);
            case "bears": return y.bears();
            case "hear": return y.hear(a);
            case "which": return y.which();
            case "alone": return y.alone(a, b);
            case "strokes": return y.strokes(a);
            case "kept": return y.kept();
            case "odds": return y.odds(a, b);
            case "least": return y.least(a);
            case "greedy": return y.greedy(a);
            case "alarm": return y.alarm(a);
            case "night": return y.night(a);
            case "begins": return y.begins(a);
            case "rest": return y.rest();
            case "undo": return y.undo();
            case "redo": return y.redo();
            case "body": return y.body(a);
            case "act": return y.act(a, b, (int) c);
            case "trace": return y.trace(a);
            case "keep": return y.keep(a, b);
            case "row": return y.row(a, b, (int) c);
            case "put": return y.put(a, b, c);
            case "element": return y.element(a, b);
            case "shift": return y.shift(a, b, (int) c, d, e);
            case "taken": return y.taken(a, b);
            default: return y.count(a);
        }
    }
}
