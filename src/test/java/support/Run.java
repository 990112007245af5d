import java.util.ArrayList;
import java.util.List;
import java.util.Map;
import java.util.regex.Matcher;
import java.util.regex.Pattern;

/**
 * A run of calls on a new object, told as text. A line holds calls, each with the answer that is due behind an = (or
 * with none), or one of the short forms that stand for many calls:
 *
 * most 9 4            a bell of each MOST, without COST and LOST
 * hours 4, heard 2    set(0, 4), set(1, 2)
 * table 0121 0102     so many HOURS, a bell of MOST 15 for each word, and its strokes by strike(), a hexadecimal digit an HOUR
 * bell 0 is 0121      what a bell strikes
 * tape h+b            feeds all that stands behind the word
 * law h+b             feeds it, and law() is 1
 * fault 2 h+          feeds it, and law() is -100 less 2
 * told 1 -1           hear() of each
 * heardrow 1 -1       hear() of each, and night(1)
 * bytes 0 1 2 3       a ROW on a SHELF (0), and what is put in; shorts, ints, longs, booleans likewise
 * shelf 0 is 1 2 3    its elements, and that there are no more
 * times 40 undo()     a call so often
 * same mix(1, 0) = 0  calls that must change nothing, though they are not refused
 */
final class Run {
    static final class Step {
        final String call;
        final long[] with;
        final boolean asked;
        final long due;
        final boolean same;

        Step(String call, long[] with, boolean asked, long due, boolean same) {
            this.call = call;
            this.with = with;
            this.asked = asked;
            this.due = due;
            this.same = same;
        }

        @Override
        public String toString() {
            StringBuilder told = new StringBuilder(call).append('(');
            for (int k = 0; k < with.length; k++) {
                told.append(k == 0 ? "" : ", ").append(with[k]);
            }
            return told.append(')').toString();
        }
    }

    private static final Map<String, Long> WORDS = Map.of("BAD", -1L, "NOT", -2L, "FULL", -3L, "STATE", -5L,
        "MIN", (long) Integer.MIN_VALUE, "MAX", (long) Integer.MAX_VALUE, "LMIN", Long.MIN_VALUE, "LMAX", Long.MAX_VALUE);
    private static final List<String> SORTS = List.of("bytes", "shorts", "ints", "longs", "booleans");
    private static final Pattern CALL = Pattern.compile("\\s*(\\w+)\\(([^)]*)\\)(?:\\s*=\\s*(-?\\w+))?");

    final List<Step> steps = new ArrayList<>();

    static Run of(String text) {
        Run run = new Run();
        for (String line : text.split("\n")) {
            if (!line.isBlank()) {
                run.line(line.strip());
            }
        }
        return run;
    }

    private static long number(String word) {
        Long known = WORDS.get(word);
        return known != null ? known : Long.parseLong(word);
    }

    private void line(String line) {
        if (line.matches("\\w+\\(.*")) {
            calls(line, false);
            return;
        }
        String[] words = line.split(" +");
        String rest = line.contains(" ") ? line.substring(line.indexOf(' ') + 1) : "";
        int sort = SORTS.indexOf(words[0]);
        if (sort >= 0) {
            row(sort, words);
            return;
        }
        switch (words[0]) {
            case "hours": ask("set", 0, number(words[1])); break;
            case "heard": ask("set", 1, number(words[1])); break;
            case "most": eachOf(words, 1, most -> ask("bell", most, 0)); break;
            case "told": eachOf(words, 1, strokes -> ask("hear", strokes)); break;
            case "heardrow": eachOf(words, 1, strokes -> ask("hear", strokes)); ask("night", 1); break;
            case "table": table(words); break;
            case "bell": struck((int) number(words[1]), words[3]); break;
            case "tape": tape(rest); break;
            case "law": tape(rest); due(1, "law"); break;
            case "fault": faulty(rest); break;
            case "shelf": shelf(words); break;
            case "times": times((int) number(words[1]), rest.substring(rest.indexOf(' ') + 1)); break;
            case "same": calls(rest, true); break;
            default: throw new IllegalArgumentException("no such line: " + line);
        }
    }

    private interface Taker {
        void take(long number);
    }

    private static void eachOf(String[] words, int from, Taker taker) {
        for (int k = from; k < words.length; k++) {
            taker.take(number(words[k]));
        }
    }

    private void ask(String call, long... with) {
        steps.add(new Step(call, with, false, 0, false));
    }

    private void due(long due, String call, long... with) {
        steps.add(new Step(call, with, true, due, false));
    }

    private void calls(String line, boolean same) {
        Matcher each = CALL.matcher(line);
        int end = 0;
        while (each.find() && each.start() == end) {
            String[] words = each.group(2).isBlank() ? new String[0] : each.group(2).strip().split(" *, *");
            long[] with = new long[words.length];
            for (int k = 0; k < words.length; k++) {
                with[k] = number(words[k]);
            }
            if (Calls.numbersOf(each.group(1)) != with.length) {
                throw new IllegalArgumentException("no such call: " + each.group());
            }
            boolean asked = each.group(3) != null;
            steps.add(new Step(each.group(1), with, asked, asked ? number(each.group(3)) : 0, same));
            end = each.end();
        }
        if (!line.substring(end).isBlank()) {
            throw new IllegalArgumentException("no such calls: " + line);
        }
    }

    private void times(int often, String line) {
        for (int k = 0; k < often; k++) {
            calls(line, false);
        }
    }

    private void table(String[] words) {
        ask("set", 0, words[1].length());
        for (int bell = 0; bell < words.length - 1; bell++) {
            ask("bell", 15, 0);
            for (int hour = 0; hour < words[1].length(); hour++) {
                int strokes = Character.digit(words[bell + 1].charAt(hour), 16);
                if (strokes > 0) {
                    ask("strike", 10 * hour + bell, strokes);
                }
            }
        }
    }

    private void struck(int bell, String row) {
        for (int hour = 0; hour < row.length(); hour++) {
            due(Character.digit(row.charAt(hour), 16), "of", 10 * hour + bell, 10);
        }
    }

    private void tape(String text) {
        for (char letter : text.toCharArray()) {
            ask("feed", letter);
        }
    }

    private void faulty(String rest) {
        int cut = rest.indexOf(' ');
        tape(cut < 0 ? "" : rest.substring(cut + 1));
        due(-100 - number(cut < 0 ? rest : rest.substring(0, cut)), "law");
    }

    private void row(int sort, String[] words) {
        long shelf = number(words[1]);
        due(1, "row", shelf, sort, words.length - 2);
        for (int k = 2; k < words.length; k++) {
            due(1, "put", shelf, k - 2, number(words[k]));
        }
    }

    private void shelf(String[] words) {
        long shelf = number(words[1]);
        for (int k = 3; k < words.length; k++) {
            due(number(words[k]), "element", shelf, k - 3);
        }
        due(Long.MIN_VALUE, "element", shelf, words.length - 3);
    }
}
