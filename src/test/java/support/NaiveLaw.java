import java.util.ArrayList;
import java.util.List;

/** Laws for the tests: the fault by going byte by byte with what is open, the value by cutting the text at its signs. */
final class NaiveLaw {
    /** The place of the fault; -1: there is none. */
    static int fault(String text) {
        List<Character> open = new ArrayList<>();      // ( ! - that are open, outermost first
        List<Boolean> comparedOutside = new ArrayList<>();
        boolean wanted = true, compared = false, asked = false;
        int digits = 0;
        for (int at = 0; at < text.length(); at++) {
            char c = text.charAt(at);
            if (wanted) {
                if (c >= '0' && c <= '9' || "hbmnpq".indexOf(c) >= 0) {
                    wanted = false;
                    digits = c <= '9' ? 1 : 4;
                } else if ("(!-".indexOf(c) >= 0 && open.size() < 6) {
                    open.add(c);
                    comparedOutside.add(compared);
                    if (c == '(') compared = false;
                } else return at;
                continue;
            }
            if (c >= '0' && c <= '9') {
                if (digits++ >= 4) return at;
                continue;
            }
            digits = 4;
            while (!open.isEmpty() && open.get(open.size() - 1) != '(') {
                open.remove(open.size() - 1);
                comparedOutside.remove(comparedOutside.size() - 1);
            }
            if (c == ')') {
                if (open.isEmpty()) return at;
                open.remove(open.size() - 1);
                compared = comparedOutside.remove(comparedOutside.size() - 1);
                continue;
            }
            wanted = true;
            if (c == ';' || c == '?') {
                if (!open.isEmpty() || c == '?' && asked) return at;
                asked = c == '?';
                compared = false;
            } else if (c == '|' || c == '&') compared = false;
            else if ("<=>".indexOf(c) >= 0) {
                if (compared) return at;
                compared = true;
            } else if ("+-*/%".indexOf(c) < 0) return at;
        }
        return wanted || open.contains('(') ? text.length() : -1;
    }

    /** What a text without a fault gives, with h, b, m, n, p, q. */
    static int value(String text, int[] names) {
        for (String line : text.split(";")) {
            String[] parts = line.split("\\?");
            if (parts.length == 1) return expression(parts[0], names);
            if (expression(parts[0], names) != 0) return expression(parts[1], names);
        }
        return 0;
    }

    private static final String[] SIGNS = {"|", "&", "<=>", "+-", "*/%"};

    private static int expression(String e, int[] names) {
        for (String signs : SIGNS) {
            int cut = lastSign(e, signs);
            if (cut >= 0) return join(e.charAt(cut), expression(e.substring(0, cut), names), expression(e.substring(cut + 1), names));
        }
        char c = e.charAt(0);
        if (c == '!') return expression(e.substring(1), names) == 0 ? 1 : 0;
        if (c == '-') return -expression(e.substring(1), names);
        if (c == '(') return expression(e.substring(1, e.length() - 1), names);
        int name = "hbmnpq".indexOf(c);
        return name >= 0 ? names[name] : Integer.parseInt(e);
    }

    /** The last of these signs outside of ( ) that stands behind an operand; -1: none. */
    private static int lastSign(String e, String signs) {
        int deep = 0;
        for (int at = e.length() - 1; at > 0; at--) {
            char c = e.charAt(at);
            if (c == ')') deep++;
            if (c == '(') deep--;
            boolean behind = Character.isLetterOrDigit(e.charAt(at - 1)) || e.charAt(at - 1) == ')';
            if (deep == 0 && behind && signs.indexOf(c) >= 0) return at;
        }
        return -1;
    }

    private static int join(char sign, int a, int b) {
        switch (sign) {
            case '|': return a != 0 | b != 0 ? 1 : 0;
            case '&': return a != 0 & b != 0 ? 1 : 0;
            case '<': return a < b ? 1 : 0;
            case '>': return a > b ? 1 : 0;
            case '=': return a == b ? 1 : 0;
            case '+': return (int) ((long) a + b);
            case '-': return (int) ((long) a - b);
            case '*': return (int) ((long) a * b);
            case '/': return b == 0 ? 0 : (int) ((long) a / b);
            default: return b == 0 ? 0 : (int) ((long) a % b);
        }
    }

    private NaiveLaw() {
    }
}
