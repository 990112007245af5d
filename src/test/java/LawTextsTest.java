import java.util.HashMap;
import java.util.Map;

/**
 * Promise 9 by the words of the grammar themselves: what is a TEXT is found by cutting a text at every sign, and a byte is
 * the FAULT if no TEXT begins with all up to it. All short texts of some signs are fed, and what law() answers is looked at.
 */
public final class LawTextsTest {
    private static final String[] SIGNS = {"|", "&", "<=>", "+-", "*/%"};
    private static final int COMPARED = 2, OPEN_AT_MOST = 6, CALLS_OF_AN_OBJECT = 512;

    private static final Map<String, Boolean> begun = new HashMap<>();
    private static AnyTwoBells x = new AnyTwoBells();
    private static int calls = 0;
    private static int passed = 0;
    private static int failed = 0;

    private static boolean isText(String s) {
        for (int cut = 0; cut < s.length(); cut++) {
            if (s.charAt(cut) == ';' && isLine(s.substring(0, cut)) && isText(s.substring(cut + 1))) {
                return true;
            }
        }
        return isLine(s);
    }

    private static boolean isLine(String s) {
        for (int cut = 0; cut < s.length(); cut++) {
            if (s.charAt(cut) == '?' && isPart(s.substring(0, cut), 0, 0) && isPart(s.substring(cut + 1), 0, 0)) {
                return true;
            }
        }
        return isPart(s, 0, 0);
    }

    /** E (level 0), A, B, S, P or O (5), with so many of ( ! - open around it. */
    private static boolean isPart(String s, int level, int open) {
        if (level == SIGNS.length) {
            return isOperand(s, open);
        }
        for (int cut = 0; cut < s.length(); cut++) {
            // one comparison alone: what stands to its left is no comparison again
            if (SIGNS[level].indexOf(s.charAt(cut)) >= 0
                && isPart(s.substring(0, cut), level == COMPARED ? level + 1 : level, open)
                && isPart(s.substring(cut + 1), level + 1, open)) {
                return true;
            }
        }
        return isPart(s, level + 1, open);
    }

    private static boolean isOperand(String s, int open) {
        if (s.matches("[0-9]{1,4}|[hbmnpq]")) {
            return true;
        }
        if (open == OPEN_AT_MOST) {
            return false;
        }
        return s.matches("[!-].+") && isPart(s.substring(1), SIGNS.length, open + 1)
            || s.matches("[(].+[)]") && isPart(s.substring(1, s.length() - 1), 0, open + 1);
    }

    /** Whether some TEXT begins so: if one does, one goes on with a number, if need be, and with ) alone. */
    private static boolean begins(String s) {
        return begun.computeIfAbsent(s, LawTextsTest::goesOn);
    }

    private static boolean goesOn(String s) {
        StringBuilder ends = new StringBuilder();
        for (int k = 0; k <= OPEN_AT_MOST; k++) {
            if (isText(s + ends) || isText(s + "1" + ends)) {
                return true;
            }
            ends.append(')');
        }
        return false;
    }

    private static void look(String text, int due) {
        if (calls + text.length() + 1 > CALLS_OF_AN_OBJECT) {
            x = new AnyTwoBells();
            calls = 0;
        }
        calls += text.length() + 1;
        for (int k = 0; k < text.length(); k++) {
            x.feed(text.charAt(k));
        }
        int got = x.law();
        if (got == due) {
            passed++;
        } else {
            failed++;
            System.out.println(text + ": " + got + ", due is " + due);
        }
    }

    /** Looks at a text that some TEXT begins with, and at all longer ones of these signs up to the first fault. */
    private static void lookFrom(String text, String signs, int longest) {
        look(text, isText(text) ? 1 : -100 - text.length());
        if (text.length() == longest) {
            return;
        }
        for (int k = 0; k < signs.length(); k++) {
            String more = text + signs.charAt(k);
            if (begins(more)) {
                lookFrom(more, signs, longest);
            } else {
                look(more, -100 - text.length());
                look(more + "1", -100 - text.length());
            }
        }
    }

    /** Any byte behind a text that some TEXT begins with. */
    private static void lookAtBytes(String text) {
        for (char letter = 0; letter < 256; letter++) {
            String more = text + letter;
            look(more, !begins(more) ? -100 - text.length() : isText(more) ? 1 : -100 - more.length());
        }
    }

    public static void main(String[] args) {
        lookFrom("", "1h(!-)+*<&|?;x", 4);
        lookFrom("", "1(-)<?;", 6);
        lookFrom("", "h<=>|&", 7);
        lookFrom("", "1!()", 10);
        lookFrom("((-!(", "1-)", 13);
        lookFrom("", "12;", 7);
        for (String text : new String[] {"", "h", "7", "12", "123", "1234", "h+", "h%", "(h", "(", "!", "-", "h<b", "h<", "(h<b", "(h<b)",
            "h<b|n", "h<b+n", "h?", "h?b", "h;", "h?b;", "!(-(!(", "!(-(!h", "((((((h)"}) {
            lookAtBytes(text);
        }
        System.out.println(passed + " passed, " + failed + " failed");
        if (failed != 0) {
            System.exit(1);
        }
    }
}
