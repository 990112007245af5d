/** For each promise of the document: ordinary inputs, the edges that it names, wrong inputs, worked out by hand. */
public final class PromisesTest {
    private static final int BAD = -1, NOT = -2, FULL = -3, STATE = -5;
    private static int wrong = 0;
    private static int asked = 0;
    private static String about = "";

    private static void due(long got, long want, String what) {
        asked++;
        if (got != want) {
            wrong++;
            System.out.println(about + ": " + what + " answered " + got + ", due is " + want);
        }
    }

    private static void due(long got, long want) {
        due(got, want, "answer " + asked);
    }

    /** Bells by their MOST, without COST and LOST. */
    private static AnyTwoBells bells(int hours, int heard, int... most) {
        AnyTwoBells x = new AnyTwoBells();
        x.set(0, hours);
        x.set(1, heard);
        for (int m : most) {
            x.bell(m, 0);
        }
        return x;
    }

    /** What each bell strikes at the hours, bell by bell, a sign (0 .. 9, a .. f) an hour. */
    private static AnyTwoBells struck(int heard, String... rows) {
        int[] most = new int[rows.length];
        java.util.Arrays.fill(most, 15);
        AnyTwoBells x = bells(rows[0].length(), heard, most);
        for (int b = 0; b < rows.length; b++) {
            for (int h = 0; h < rows[b].length(); h++) {
                x.strike(10 * h + b, Character.digit(rows[b].charAt(h), 16));
            }
        }
        return x;
    }

    private static String bell(AnyTwoBells x, int bell) {
        StringBuilder row = new StringBuilder();
        for (int h = 0; h < x.count(1); h++) {
            row.append(Character.forDigit(x.of(10 * h + bell, 10), 16));
        }
        return row.toString();
    }

    private static void dueRow(AnyTwoBells x, int bell, String want) {
        asked++;
        if (!bell(x, bell).equals(want)) {
            wrong++;
            System.out.println(about + ": bell " + bell + " strikes " + bell(x, bell) + ", due is " + want);
        }
    }

    private static void feed(AnyTwoBells x, String text) {
        for (char c : text.toCharArray()) {
            x.feed(c);
        }
    }

    private static int law(AnyTwoBells x, String text) {
        feed(x, text);
        return x.law();
    }

    private static void hear(AnyTwoBells x, int... strokes) {
        for (int s : strokes) {
            x.hear(s);
        }
    }

    private static void night(AnyTwoBells x, int... strokes) {
        hear(x, strokes);
        x.night(1);
    }

    private static void promise1() {
        AnyTwoBells x = new AnyTwoBells();
        int[] counts = {0, 12, 2, 0, 0, 0, 0};
        for (int what = 0; what < counts.length; what++) {
            due(x.count(what), counts[what], "count(" + what + ")");
        }
        due(x.which(), 4095);
        due(x.of(1, 20), 0);
        due(x.trace(0), BAD);
        for (int shelf = 0; shelf < 6; shelf++) {
            due(x.put(shelf, 0, 1), -11);
        }
        due(AnyTwoBells.VOID, -2000000000);
    }

    private static void promise2() {
        AnyTwoBells x = new AnyTwoBells();
        due(x.bell(0, 0), BAD);
        due(x.bell(16, 0), BAD);
        due(x.bell(1, -1), BAD);
        due(x.bell(1, 101), BAD);
        due(x.bell(1, 100000), BAD);
        due(x.bell(1, Integer.MIN_VALUE), BAD);
        due(x.count(0), 0);
        due(x.bell(1, 99100), 0);
        due(x.bell(15, 7), 1);
        due(x.of(0, 1), 99);
        due(x.of(0, 2), 100);
        due(x.of(1, 0), 15);
        due(x.of(1, 1), 0);
        due(x.of(1, 2), 7);
        dueRow(x, 1, "000000000000");
        for (int b = 2; b < 6; b++) {
            due(x.bell(3, 5000), b);
        }
        due(x.bell(0, 0), BAD, "a seventh bell, wrong");
        due(x.bell(3, 0), FULL, "a seventh bell");
        due(x.count(0), 6);
    }

    private static void promise3() {
        AnyTwoBells x = struck(2, "1234", "5678");
        due(x.set(0, 1), BAD);
        due(x.set(0, 25), BAD);
        due(x.set(1, 0), BAD);
        due(x.set(1, 7), BAD);
        due(x.set(2, 3), BAD);
        due(x.set(-1, 3), BAD);
        due(x.count(4), 8, "wrong calls forget no changes");
        x.mix(102, 1);
        x.mix(203, 1);
        x.mix(1, 1);
        due(x.set(0, 2), 4);
        due(x.count(4), 0, "changes are forgotten");
        due(x.set(0, 24), 2);
        dueRow(x, 0, "120000000000000000000000");
        dueRow(x, 1, "560000000000000000000000");
        due(x.of(102, 20), 0);
        due(x.of(203, 20), 0);
        due(x.of(201, 20), 0);
        due(x.of(1, 20), 1);
        due(x.of(100, 20), 1);
        due(x.set(1, 6), 2);
        due(x.set(1, 1), 6);
        due(x.count(2), 1);
        x.strike(0, 9);
        due(x.set(1, 3), 1);
        due(x.count(4), 1, "HEARD forgets no changes");
        due(x.set(0, 24), 24);
        due(x.count(4), 0, "the same number of hours forgets them too");
    }

    private static void promise4() {
        AnyTwoBells x = bells(12, 2, 5, 15);
        due(x.strike(0, 5), 0);
        due(x.strike(111, 15), 0);
        due(x.strike(111, 3), 15);
        due(x.of(111, 10), 3);
        due(x.strike(0, 6), BAD, "above MOST");
        due(x.strike(0, -1), BAD);
        due(x.strike(2, 0), BAD, "no such bell");
        due(x.strike(120, 0), BAD, "no such hour");
        due(x.strike(9, 0), BAD);
        due(x.strike(-1, 0), BAD);
        due(x.strike(-10, 0), BAD);
        due(x.strike(Integer.MIN_VALUE, 0), BAD);
        due(x.strike(0, 5), 5);
        due(x.count(4), 3, "the same number is no change");
    }

    private static void promise5() {
        AnyTwoBells x = bells(4, 2, 9, 9);
        x.strike(0, 7);
        x.strike(10, 7);
        due(x.strikes(0, 0, 0, 4), 0, "a missing row");
        due(x.count(4), 2, "nothing came, no change is forgotten");
        x.row(0, 0, 6);
        int[] strokes = {1, 2, 3, 10, 5, -1};
        for (int i = 0; i < 6; i++) {
            x.put(0, i, strokes[i]);
        }
        due(x.strikes(0, 3, 0, 4), 0, "the first is above MOST");
        due(x.strikes(0, 5, 0, 4), 0, "the first is below 0");
        due(x.strikes(0, 6, 0, 4), 0, "behind the row");
        due(x.strikes(0, -1, 0, 4), 0, "ahead of the row");
        due(x.strikes(0, Integer.MAX_VALUE, 0, 4), 0);
        due(x.strikes(0, Integer.MIN_VALUE, 0, 4), 0);
        due(x.count(4), 2);
        dueRow(x, 0, "7700");
        due(x.strikes(0, 0, 0, 4), 3, "until one is not so");
        dueRow(x, 0, "1230");
        due(x.count(4), 0, "changes are forgotten");
        due(x.undo(), STATE);
        due(x.strikes(0, 1, 0, 1), 1, "no more than n");
        dueRow(x, 0, "2230");
        due(x.strikes(0, 4, 1, 4), 1);
        dueRow(x, 1, "5000");
        due(x.strikes(0, 1, 1, 2), 2);
        dueRow(x, 1, "2300");
        x.row(0, 0, 2);
        due(x.strikes(0, 0, 1, 4), 2, "the row ends");
        dueRow(x, 1, "0000");
        due(x.strikes(6, 0, 0, 1), BAD);
        due(x.strikes(-1, 0, 0, 1), BAD);
        due(x.strikes(0, 0, 2, 1), BAD);
        due(x.strikes(0, 0, 0, 0), BAD);
        due(x.strikes(0, 0, 0, 5), BAD, "more than HOURS");
        x.row(1, 1, 3);
        due(x.strikes(1, 0, 0, 1), -12, "shorts");
        due(x.strikes(1, 0, 0, 5), BAD, "BAD is named ahead of -12");
        x.row(1, 4, 3);
        due(x.strikes(1, 0, 0, 1), -12, "booleans");
        x.body(0);
        x.keep(2, 0);
        due(x.strikes(2, 0, 0, 1), -12, "a TABLE");
        x.row(3, 0, 0);
        due(x.strikes(3, 0, 0, 1), 0, "an empty row");
        x.row(4, 0, 4);
        x.keep(4, -1);
        due(x.strikes(4, 0, 0, 1), 0, "a row that is away again");
    }

    private static void promise6() {
        AnyTwoBells x = bells(12, 2, 5, 4);
        x.strike(110, 4);
        due(x.most(0, 3), BAD, "below a stroke");
        due(x.most(0, 4), 5);
        due(x.of(0, 0), 4);
        due(x.of(1, 0), 4);
        due(x.strike(0, 5), BAD);
        due(x.most(0, 15), 4);
        due(x.strike(0, 15), 0);
        due(x.most(0, 16), BAD);
        due(x.most(1, 0), BAD);
        due(x.most(2, 4), BAD);
        due(x.most(-1, 4), BAD);
        due(x.count(4), 4);
        due(x.most(1, 4), 4);
        due(x.count(4), 4, "the same number is no change");
        x.set(0, 11);
        due(x.most(1, 1), 4);
        due(x.most(0, 14), BAD, "below the stroke at HOUR 0");
    }

    private static void promise7() {
        AnyTwoBells x = bells(12, 2, 5);
        due(x.mix(11, 1), 0);
        due(x.mix(1100, 1), 1, "the other way round");
        due(x.mix(1100, 0), 1);
        due(x.mix(11, 1), 0);
        due(x.of(1100, 20), 1);
        due(x.mix(101, 1), BAD, "one and the same");
        due(x.mix(0, 0), BAD);
        due(x.mix(12, 1), BAD);
        due(x.mix(1200, 1), BAD);
        due(x.mix(-1, 1), BAD);
        due(x.mix(2, 2), BAD);
        due(x.mix(2, -1), BAD);
        due(x.of(2, 20), 0);
    }

    private static void promise8() {
        AnyTwoBells x = new AnyTwoBells();
        due(x.feed(-1), BAD);
        due(x.feed(256), BAD);
        for (int k = 1; k <= 120; k++) {
            due(x.feed(k % 2 == 1 ? 'h' : '+'), k);
        }
        due(x.feed(256), BAD, "BAD is named ahead of FULL");
        due(x.feed('h'), FULL);
        due(x.count(3), 120);
        due(x.law(), -220, "a whole tape that ends too early");
        due(x.count(3), 0);
        due(x.feed(0), 1);
        due(x.feed(255), 2);
    }

    private static void dueFault(String text, int fault) {
        AnyTwoBells x = new AnyTwoBells();
        due(law(x, text), fault < 0 ? 1 : -100 - fault, "law " + text);
        due(x.count(3), 0);
    }

    private static void promise9() {
        String[] texts = {"h", "1", "1234", "h;b", "h?b", "h?b;n", "1<2", "1<2|3>4&5=6", "!h", "-h", "!!!---1", "((((((1))))))",
            "-(-(-(1)))", "!h=1", "h--1", "(h<b)<m", "1<2&2<3|3<4", "-1+-1+-1+-1+-1+-1+-1", "((((((1))))))+((((((1))))))", "(1)?(2)"};
        for (String text : texts) {
            dueFault(text, -1);
        }
        dueFault("1?((((((1))))))", -1);
        dueFault("", 0);
        dueFault("h;", 2);
        dueFault("h?", 2);
        dueFault("h+", 2);
        dueFault("(h", 2);
        dueFault("((h)", 4);
        dueFault("h h", 1);
        dueFault(" h", 0);
        dueFault("x", 0);
        dueFault("H", 0);
        dueFault("hb", 1);
        dueFault("12345", 4);
        dueFault("1h", 1);
        dueFault("h1", 1);
        dueFault("h)", 1);
        dueFault("()", 1);
        dueFault("1<2<3", 3);
        dueFault("(1<2=3)", 4);
        dueFault("h?b?n", 3);
        dueFault("(h?b)", 2);
        dueFault("(h;b)", 2);
        dueFault(";h", 0);
        dueFault("h;;b", 2);
        dueFault("?h", 0);
        dueFault("h++b", 2);
        dueFault("h!b", 1);
        dueFault("!", 1);
        dueFault("-------1", 6);
        dueFault("(((((((1", 6);
        dueFault("!-(!-(!1", 6);
        dueFault("-(-(-(1+-1", 8);
        dueFault("((((((1)+(2", 11);
        dueFault("h" + (char) 233, 1);
        AnyTwoBells x = bells(2, 1, 9);
        law(x, "7");
        due(law(x, "8+"), -102, "a fault");
        due(x.lay(), 14, "the law stays as it was");
        due(law(x, ""), -100);
        due(x.lay(), 14, "the law stays as it was");
    }

    private static void dueLaid(String text, String... rows) {
        AnyTwoBells x = bells(rows[0].length(), 2, 9, 7);
        due(law(x, text), 1, text);
        x.lay();
        for (int b = 0; b < rows.length; b++) {
            about = "promise 10, " + text;
            dueRow(x, b, rows[b]);
        }
        about = "promise 10";
    }

    private static void promise10() {
        AnyTwoBells x = bells(12, 2, 5, 3);
        x.strike(0, 4);
        due(x.lay(), 30 + 18);
        dueRow(x, 0, "012345012345");
        dueRow(x, 1, "123012301230");
        due(x.count(4), 0);
        due(x.undo(), STATE);
        due(new AnyTwoBells().lay(), 0);
        dueLaid("h", "01234", "01234");
        dueLaid("b", "00000", "11111");
        dueLaid("m", "99999", "77777");
        dueLaid("n", "55555", "55555");
        dueLaid("p+h", "01234", "02467");
        dueLaid("q+1", "12345", "12345");
        dueLaid("9999", "99", "77");
        dueLaid("-5", "00", "00");
        dueLaid("10-2-3", "55", "55");
        dueLaid("2+3*2", "88", "77");
        dueLaid("(2+3)*2-4", "66", "66");
        dueLaid("7/2*2", "66", "66");
        dueLaid("0-7/2+9", "66", "66");
        dueLaid("-7/2+9", "66", "66");
        dueLaid("-7%4+9", "66", "66");
        dueLaid("h/0+h%0+3", "33", "33");
        dueLaid("!h", "100", "100");
        dueLaid("!!h*4", "044", "044");
        dueLaid("h<2", "1100", "1100");
        dueLaid("h=2", "0010", "0010");
        dueLaid("h>2", "0001", "0001");
        dueLaid("4|0", "11", "11");
        dueLaid("4&2", "11", "11");
        dueLaid("h&b", "000", "011");
        dueLaid("h|b", "011", "111");
        dueLaid("1|0&0", "11", "11");
        dueLaid("0*5|3", "11", "11");
        dueLaid("h<2?3;5", "3355", "3355");
        dueLaid("h=0?3;h=1?4", "340", "340");
        dueLaid("b?h;h=1?9;2", "292", "012");
        dueLaid("7;8", "77", "77");
        dueLaid("0|1?0|2;5", "11", "11");
        dueLaid("(0|2)*3", "33", "33");
        x = bells(2, 2, 9);
        for (int v = 1; v < 5; v++) {
            law(x, v + "");
            due(x.lay(), 2 * v, "one law behind the other");
        }
        x.set(0, 3);
        dueRow(x, 0, "440");
        dueLaid("9999*9999*9999*9999+9*0?4;5", "44", "44");
        dueLaid("9999*9999*9999<0?4;5", "44", "44");
        dueLaid("9999*9999*99<0?4;5", "55", "55");
        dueLaid("9999*9999*30<0?4;5", "44", "44");
        x = bells(2, 2, 9, 9);
        law(x, "h+1");
        due(x.lay(), 6);
        law(x, "3");
        due(x.lay(), 12);
        due(x.lay(), 12);
    }

    private static void promise11() {
        AnyTwoBells x = bells(12, 2, 5, 15);
        x.strike(1, 9);
        due(x.line(0, 10007), 30);
        dueRow(x, 0, "012345501234");
        dueRow(x, 1, "900000000000");
        due(x.count(4), 0);
        due(x.line(1, 20116), 80);
        dueRow(x, 1, "13579bdf1357");
        due(x.line(1, 999902), 6);
        dueRow(x, 1, "101010101010");
        x.set(0, 13);
        dueRow(x, 1, "1010101010100");
        x.strike(1, 9);
        due(x.line(1, 1000002), BAD);
        due(x.line(1, 1), BAD);
        due(x.line(1, 0), BAD);
        due(x.line(1, 17), BAD);
        due(x.line(1, 10099), BAD);
        due(x.line(1, -1), BAD);
        due(x.line(1, -9984), BAD);
        due(x.line(2, 10007), BAD);
        due(x.line(-1, 10007), BAD);
        due(x.count(4), 1, "wrong calls forget nothing");
    }

    private static void promise12() {
        AnyTwoBells x = bells(4, 2, 9, 9, 4);
        x.line(0, 10016);
        x.line(1, 20116);
        due(x.sum(2, 1), 1 + 4 + 2 + 0);
        dueRow(x, 2, "1420");
        x.strike(12, 0);
        due(x.sum(2, 10), 7);
        due(x.count(4), 0);
        x.strike(12, 0);
        due(x.sum(0, 11), BAD);
        due(x.sum(0, 1), BAD);
        due(x.sum(0, 10), BAD);
        due(x.sum(0, 13), BAD);
        due(x.sum(0, 31), BAD);
        due(x.sum(3, 1), BAD);
        due(x.sum(-1, 1), BAD);
        due(x.sum(0, -12), BAD);
        due(x.sum(0, 112), BAD);
        due(x.count(4), 1, "wrong calls forget nothing");
        due(x.sum(0, 12), 2 + 3 + 7 + 7);
        dueRow(x, 0, "2377");
        x.set(0, 5);
        dueRow(x, 0, "23770");
    }

    private static void promise13() {
        AnyTwoBells x = bells(4, 2, 9);
        x.bell(7, 45067);
        x.strike(31, 6);
        x.mix(203, 1);
        due(x.of(1, 0), 7);
        due(x.of(1, 1), 45);
        due(x.of(1, 2), 67);
        due(x.of(31, 10), 6);
        due(x.of(203, 20), 1);
        due(x.of(302, 20), 1);
        due(x.of(3, 20), 0);
        for (int what = 0; what < 3; what++) {
            due(x.of(2, what), BAD);
            due(x.of(-1, what), BAD);
        }
        due(x.of(40, 10), BAD);
        due(x.of(2, 10), BAD);
        due(x.of(-1, 10), BAD);
        due(x.of(4, 20), BAD);
        due(x.of(400, 20), BAD);
        due(x.of(-1, 20), BAD);
        due(x.of(0, 20), BAD, "one and the same hour is no pair");
        due(x.of(0, 3), BAD);
        due(x.of(0, 11), BAD);
        due(x.of(0, -1), BAD);
    }

    private static void promise14() {
        AnyTwoBells x = new AnyTwoBells();
        due(x.tells(4), BAD);
        due(x.tells(-1), BAD);
        due(x.tells(0), STATE);
        due(x.tells(3), STATE);
        // bells 0 and 1 take hours 1 and 3 for one, bells 0 and 2 hours 0 and 2, bells 1 and 2 none
        x = struck(2, "0101", "0121", "0102");
        due(x.tells(3), 0);
        due(x.tells(0), 3);
        due(x.tells(1), 1);
        due(x.tells(2), 3);
        x.mix(301, 1);
        due(x.tells(0), 5);
        due(x.tells(1), 0);
        due(x.tells(2), 2);
        x.mix(2, 1);
        due(x.tells(3), 1);
        due(x.tells(0), NOT);
        due(x.tells(2), NOT);
        due(x.tells(4), BAD);
        x.mix(2, 0);
        x.set(1, 1);
        due(x.tells(0), 1, "one bell alone");
        due(x.tells(1), 0);
        due(x.tells(2), 2);
        x = struck(2, "00", "00");
        due(x.tells(0), 3);
        due(x.tells(1), 0);
        due(x.tells(2), 1);
        x = struck(5, "01", "00");
        due(x.tells(3), 1, "all of them, if there are fewer");
        x.set(1, 1);
        due(x.tells(0), 2);
        // bells 0, 1, 4 (19) take hours 0 and 1 for one, bells 1, 2, 3 (14) hours 0 and 2: by numbers 14 is the first
        x = struck(3, "001", "000", "010", "010", "001");
        due(x.tells(0), 14);
        due(x.tells(1), 0);
        due(x.tells(2), 2);
    }

    private static void promise15() {
        AnyTwoBells x = new AnyTwoBells();
        due(x.gap(2), BAD);
        due(x.gap(-1), BAD);
        due(x.gap(0), STATE);
        x = struck(2, "012", "011", "001");
        due(x.gap(0), 2);
        due(x.gap(1), 2);
        x = struck(2, "010", "011", "000");
        due(x.gap(0), 1);
        due(x.gap(1), 3);
        x.mix(102, 1);
        x.mix(2, 1);
        due(x.gap(0), 2);
        due(x.gap(1), 2);
        x.mix(1, 1);
        due(x.gap(0), NOT, "all pairs are mixed");
        due(x.gap(1), NOT);
        x = struck(2, "0123456789abcdef01234566", "0000000000000000aaaaaaaa");
        due(x.gap(0), 0, "hours 22 and 23");
        due(x.tells(1), 22);
        due(x.tells(2), 23);
        x = struck(2, "00", "11");
        due(x.gap(0), 0);
        due(x.gap(1), NOT);
    }

    private static void promise16() {
        due(new AnyTwoBells().bears(), STATE);
        due(struck(1, "02").bears(), 1);
        due(struck(1, "01").bears(), 0, "one could be heard as the other one");
        due(struck(1, "12").bears(), 0);
        due(struck(1, "00").bears(), 0, "not told at all");
        due(struck(2, "12", "21").bears(), 0, "both as a third row");
        due(struck(2, "12", "12").bears(), 1, "one stroke alone is lost");
        due(struck(2, "21", "21").bears(), 1);
        due(struck(2, "13", "21").bears(), 1);
        due(struck(2, "02", "01").bears(), 1);
        due(struck(3, "12", "12", "21").bears(), 1);
        due(struck(2, "12", "12", "21").bears(), 0, "of two heard, 0 and 2");
        due(struck(2, "02", "02", "02").bears(), 1);
        due(struck(2, "02", "01", "02").bears(), 1);
        due(struck(2, "02", "01", "01").bears(), 1, "two strokes would be lost");
        due(struck(2, "02", "01", "10").bears(), 0);
        due(struck(1, "02", "01").bears(), 0);
        AnyTwoBells x = struck(1, "023", "021");
        due(x.bears(), 0);
        x.mix(201, 1);
        due(x.bears(), 0, "bell 1 strikes 0 and 1");
        x.mix(2, 1);
        due(x.bears(), 1);
    }

    private static void promise17() {
        AnyTwoBells x = new AnyTwoBells();
        due(x.hear(0), FULL);
        due(x.hear(16), BAD);
        x = bells(12, 2, 5, 5);
        due(x.hear(-2), BAD);
        due(x.hear(16), BAD);
        due(x.hear(15), 1);
        due(x.hear(-1), 2);
        due(x.hear(-2), BAD, "BAD is named ahead of FULL");
        due(x.hear(0), FULL);
        x.bell(5, 0);
        due(x.hear(0), 3, "a bell more");
        due(x.hear(0), FULL);
        x.which();
        due(x.hear(0), 1);
    }

    private static void promise18() {
        AnyTwoBells x = struck(2, "0120", "0110");
        due(x.which(), 15, "nothing was told");
        hear(x, 0);
        due(x.which(), 9);
        hear(x, -1, 1);
        due(x.which(), 6);
        due(x.which(), 15, "it is forgotten");
        hear(x, 1, 1);
        due(x.which(), 2);
        hear(x, 15, -1);
        due(x.which(), 0);
        hear(x, -1, -1);
        due(x.which(), 15);
    }

    private static void promise19() {
        AnyTwoBells x = struck(2, "0120f0", "000000");
        due(x.alone(0, 0), 41);
        due(x.alone(0, 15), 16);
        due(x.alone(0, 7), 0);
        due(x.alone(0, -1), 3);
        due(x.alone(1, -1), 6);
        due(x.alone(1, 0), 63);
        due(struck(1, "ff").alone(0, -1), 2);
        due(x.alone(0, 16), BAD);
        due(x.alone(0, -2), BAD);
        due(x.alone(2, 0), BAD);
        due(x.alone(-1, 0), BAD);
    }

    private static void promise20() {
        AnyTwoBells x = new AnyTwoBells();
        due(x.strokes(104), STATE);
        due(x.strokes(101), 0);
        due(x.strokes(102), 0);
        due(x.strokes(103), 0);
        x.set(0, 4);
        x.bell(9, 2000);
        x.bell(9, 5000);
        x.bell(9, 4000);
        due(x.strokes(104), 0, "of like ones the first");
        x.line(0, 10016);
        x.strike(11, 4);
        x.strike(32, 2);
        due(x.strokes(0), 0);
        due(x.strokes(1), 5);
        due(x.strokes(2), 2);
        due(x.strokes(3), 5);
        due(x.strokes(4), BAD);
        due(x.strokes(-1), BAD);
        due(x.strokes(100), 24);
        due(x.strokes(101), 5);
        due(x.strokes(102), 1, "the first of the worst");
        due(x.strokes(103), 2 * (6 * 2 + 4 * 5 + 2 * 4));
        due(x.strokes(104), 1);
        x.strike(22, 3);
        due(x.strokes(104), 1, "of like ones the first");
        x.strike(2, 1);
        due(x.strokes(104), 2);
        due(x.strokes(105), BAD);
        due(x.strokes(99), BAD);
    }

    private static void promise21() {
        due(new AnyTwoBells().kept(), NOT);
        due(struck(2, "0000", "0011", "0101").kept(), 6);
        due(struck(2, "0123", "0011", "0101").kept(), 1);
        due(struck(2, "0012", "0123", "0123").kept(), 2, "of like ones the least");
        due(struck(2, "0011", "0101", "0110").kept(), 3);
        due(struck(1, "0011", "0000", "0110").kept(), 5, "all of them heard");
        due(struck(2, "0011", "0000", "0011").kept(), NOT);
        AnyTwoBells x = bells(2, 1);
        x.mix(1, 1);
        due(x.kept(), 0, "no bells, all mixed");
        x = struck(2, "0011", "0101");
        x.mix(1, 1);
        due(x.kept(), 3);
        x.mix(203, 1);
        due(x.kept(), 1);
    }

    private static void dueOdds(AnyTwoBells x, int hour, long above, long below) {
        due(x.odds(hour, 0), above, "odds(" + hour + ", 0)");
        due(x.odds(hour, 1), below, "odds(" + hour + ", 1)");
    }

    private static void promise22() {
        AnyTwoBells x = new AnyTwoBells();
        dueOdds(x, 0, 0, 1);
        dueOdds(x, -1, 0, 1);
        x.set(0, 3);
        x.bell(5, 20);
        x.bell(5, 50);
        x.strike(10, 1);
        x.strike(20, 1);
        x.strike(21, 1);
        // bell 0 parts hour 0 from both, bell 1 hour 2 from both
        dueOdds(x, 0, 4, 5);
        dueOdds(x, 1, 2, 5);
        dueOdds(x, 2, 1, 2);
        dueOdds(x, -1, 17, 30);
        x.mix(102, 1);
        dueOdds(x, 1, 4, 5);
        dueOdds(x, 2, 9, 10);
        x.mix(1, 1);
        dueOdds(x, 1, 1, 1);
        due(x.odds(3, 0), Long.MIN_VALUE);
        due(x.odds(-2, 0), Long.MIN_VALUE);
        due(x.odds(0, 2), Long.MIN_VALUE);
        due(x.odds(0, -1), Long.MIN_VALUE);
        x = new AnyTwoBells();
        x.set(0, 2);
        for (int b = 0; b < 6; b++) {
            x.bell(1, 1);
        }
        for (int b = 0; b < 6; b++) {
            x.strike(10 + b, 1);
        }
        dueOdds(x, 0, 999999999999L, 1000000000000L);
        dueOdds(x, -1, 999999999999L, 1000000000000L);
        x = bells(2, 1, 1);
        x.strike(10, 1);
        dueOdds(x, 0, 1, 1);
        x.set(0, 3);
        dueOdds(x, -1, 1, 3);
        x = new AnyTwoBells();
        x.bell(1, 100);
        x.set(0, 2);
        x.strike(0, 1);
        dueOdds(x, 1, 0, 1);
    }

    private static void dueTable(AnyTwoBells x, boolean least, int total, String... rows) {
        due(least ? x.least(-1) : x.greedy(-1), total, "in all");
        for (int b = 0; b < rows.length; b++) {
            for (int h = 0; h < rows[b].length(); h++) {
                due(least ? x.least(10 * h + b) : x.greedy(10 * h + b), Character.digit(rows[b].charAt(h), 16), "hour " + h + ", bell " + b);
            }
        }
    }

    private static void promise23() {
        AnyTwoBells x = new AnyTwoBells();
        due(x.least(-1), STATE);
        due(x.least(0), BAD);
        dueTable(bells(2, 1, 5), true, 1, "01");
        dueTable(bells(4, 2, 15), true, 6, "0123");
        dueTable(bells(3, 2, 2, 2, 2), true, 3, "001", "010", "100");
        dueTable(bells(4, 1, 3, 3), true, 12, "0123", "0123");
        dueTable(bells(4, 2, 3, 3), true, 4, "0001", "0120");
        due(bells(4, 1, 2, 5).least(-1), STATE, "18 rows, 4 hours: 104976 tables");
        due(bells(4, 1, 15).least(-1), 6, "16 rows, 4 hours: 65536 tables");
        due(bells(2, 1, 15, 15).least(-1), 2, "256 rows, 2 hours: 65536 tables");
        due(bells(4, 1, 1, 7).least(-1), NOT, "bell 0 can't part four hours");
        due(bells(4, 1, 1, 7).least(0), NOT);
        due(bells(4, 1, 1, 8).least(-1), STATE);
        due(bells(4, 1, 15, 15, 15).least(-1), STATE);
        due(bells(5, 1, 1).least(-1), STATE);
        due(bells(2, 1, 1, 1, 1, 1).least(-1), STATE);
        x = bells(4, 1, 1, 7);
        x.mix(1, 1);
        x.mix(203, 1);
        dueTable(x, true, 4, "0011", "0011");
        x.mix(1, 0);
        x.mix(203, 0);
        x.mix(2, 1);
        x.mix(103, 1);
        dueTable(x, true, 4, "0101", "0101");
        x.mix(1, 1);
        x.mix(203, 1);
        x.mix(3, 1);
        x.mix(102, 1);
        due(x.least(-1), 0, "all are mixed");
        due(x.least(31), 0);
        due(x.least(-2), BAD);
        due(x.least(40), BAD);
        due(x.least(2), BAD);
        due(x.least(Integer.MIN_VALUE), BAD);
        due(x.of(10, 10), 0, "the table stays as it was");
        due(bells(3, 1, 1).least(0), NOT);
    }

    private static void promise24() {
        AnyTwoBells x = new AnyTwoBells();
        due(x.greedy(-1), STATE);
        due(x.greedy(0), BAD);
        dueTable(bells(4, 1, 3), false, 6, "0123");
        // by sums: 00, then 01 ahead of 10, then 02, 11, 20
        dueTable(bells(6, 2, 3, 3), false, 8, "001012", "010210");
        dueTable(bells(4, 1, 3, 3), false, 12, "0123", "0123");
        dueTable(bells(4, 2, 1, 1, 1), false, 6, "0011", "0101", "0110");
        dueTable(bells(5, 3, 1, 1, 1), false, 5, "00010", "00101", "01001");
        due(bells(5, 2, 1, 1, 1).greedy(-1), NOT);
        due(bells(5, 2, 1, 1, 1).greedy(0), NOT);
        due(bells(24, 1, 15).greedy(-1), NOT);
        due(bells(16, 1, 15).greedy(-1), 120);
        due(bells(4, 2, 5, 5, 5, 5).greedy(-1), STATE);
        x = bells(4, 1, 1);
        due(x.greedy(-1), NOT);
        x.mix(2, 1);
        x.mix(103, 1);
        dueTable(x, false, 2, "0101");
        x.mix(1, 1);
        x.mix(203, 1);
        x.mix(3, 1);
        x.mix(102, 1);
        due(x.greedy(-1), 0, "all are mixed");
        AnyTwoBells y = bells(3, 2, 2, 2, 2);
        due(y.least(2), 1);
        dueTable(y, false, 4, "001", "010", "011");
        due(x.greedy(-2), BAD);
        due(x.greedy(1), BAD);
        due(x.greedy(40), BAD);
        due(x.of(10, 10), 0, "the table stays as it was");
    }

    private static void dueAlarm(AnyTwoBells x, String row) {
        for (int b = 0; b < row.length(); b++) {
            due(x.alarm(b), Character.digit(row.charAt(b), 16), "alarm(" + b + ")");
        }
    }

    private static void promise25() {
        AnyTwoBells x = new AnyTwoBells();
        due(x.alarm(0), BAD);
        x = struck(1, "013");
        dueAlarm(x, "2");
        due(x.alarm(1), BAD);
        due(x.alarm(-1), BAD);
        dueAlarm(struck(2, "000", "013"), "10");
        dueAlarm(struck(2, "011", "102"), "00");
        dueAlarm(struck(1, "000", "012"), "13");
        dueAlarm(struck(2, "01", "10"), "00");
        dueAlarm(struck(2, "001", "010"), "02");
        dueAlarm(struck(2, "00", "00", "00"), "011");
        dueAlarm(struck(3, "00", "00", "00"), "001");
        x = struck(2, "01", "00");
        x.mix(1, 1);
        dueAlarm(x, "01");
        x = bells(5, 1, 1, 1, 5);
        x.line(2, 10016);
        dueAlarm(x, "115");
        x = bells(2, 1, 1);
        x.strike(10, 1);
        due(x.alarm(0), NOT);
        due(bells(2, 1, 1, 1, 1, 1).alarm(0), STATE);
        due(bells(2, 1, 1, 1, 1, 1).alarm(4), BAD);
    }

    private static void promise26() {
        AnyTwoBells x = struck(2, "0123");
        due(x.night(2), BAD);
        due(x.night(-1), BAD);
        hear(x, 1);
        due(x.night(1), 1);
        due(x.begins(0), 2);
        due(x.which(), 15, "it is forgotten");
        for (int k = 2; k <= 12; k++) {
            due(x.night(1), k);
        }
        hear(x, 3);
        due(x.night(1), FULL);
        due(x.which(), 8, "what is FULL changes nothing");
        hear(x, 2);
        due(x.night(0), 0);
        due(x.which(), 4, "what was heard is no row yet");
        due(x.begins(0), 15);
        due(x.night(1), 1);
    }

    private static void promise27() {
        AnyTwoBells x = struck(1, "0010");
        due(x.begins(2), BAD);
        due(x.begins(-1), BAD);
        due(x.begins(0), 15);
        due(x.begins(1), 3, "hours 0 and 3 differ with the third row more");
        night(x, 0);
        due(x.begins(0), 11);
        due(x.begins(1), 2);
        night(x, 0);
        due(x.begins(0), 9);
        due(x.begins(1), 1);
        night(x, -1);
        due(x.begins(0), 9);
        due(x.begins(1), 1, "HOUR 2 behind HOUR 3, 0 and 1");
        x.mix(3, 1);
        due(x.begins(1), 0);
        x.mix(3, 0);
        night(x, 0);
        due(x.begins(0), 1, "HOUR 0 is behind the last");
        due(x.begins(1), 0);
        night(x, 5);
        due(x.begins(0), 0);
        due(x.begins(1), 0);
        x = struck(1, "0101");
        due(x.begins(1), NOT);
        x.mix(2, 1);
        due(x.begins(1), NOT);
        x.mix(103, 1);
        due(x.begins(1), 1);
        StringBuilder late = new StringBuilder("000000000000000000000001");
        due(struck(1, late.toString()).begins(1), 23);
        x = struck(1, "01", "00");
        night(x, 1);
        x.bell(3, 0);
        due(x.begins(0), 2, "a later bell was not heard");
    }

    private static void promise28() {
        due(new AnyTwoBells().rest(), 0);
        due(struck(2, "012", "222", "102").rest(), 2);
        due(struck(2, "012", "021", "102").rest(), 7);
        due(struck(1, "012", "021").rest(), 3, "HEARD 1 at least");
        due(struck(3, "0011", "0101", "0110").rest(), 7);
        due(struck(2, "0011", "0101", "0110").rest(), 0);
        due(struck(2, "012").rest(), 0, "a lone bell");
        AnyTwoBells x = bells(2, 2, 3);
        x.mix(1, 1);
        due(x.rest(), 1, "a lone bell, all mixed");
        due(struck(6, "0011", "0101", "0110").rest(), 7);
    }

    private static void promise29() {
        AnyTwoBells x = bells(12, 2, 5, 5);
        due(x.undo(), STATE);
        x.strike(0, 3);
        x.strike(0, 4);
        x.most(0, 4);
        due(x.undo(), 2);
        due(x.of(0, 0), 5);
        due(x.undo(), 1);
        due(x.of(0, 10), 3);
        due(x.undo(), 0);
        due(x.of(0, 10), 0);
        due(x.undo(), STATE);
        for (int k = 0; k < 45; k++) {
            x.strike(10 * (k % 12), k / 12 + 1);
        }
        due(x.count(4), 40, "40 at most");
        for (int k = 39; k >= 0; k--) {
            due(x.undo(), k);
        }
        due(x.undo(), STATE);
        dueRow(x, 0, "111110000000");
        for (int k = 39; k >= 0; k--) {
            due(x.redo(), k);
        }
        due(x.redo(), STATE);
        dueRow(x, 0, "444444444333");
        while (x.count(4) > 0) {
            x.undo();
        }
        x.bell(3, 0);
        x.set(1, 3);
        x.mix(1, 1);
        due(x.redo(), 39, "other calls forget no changes");
        due(x.undo(), 0);
    }

    private static void promise30() {
        AnyTwoBells x = bells(12, 2, 5, 5);
        due(x.redo(), STATE);
        x.strike(0, 3);
        x.most(1, 9);
        x.strike(21, 9);
        due(x.redo(), STATE);
        x.undo();
        x.undo();
        due(x.redo(), 1);
        due(x.of(1, 0), 9);
        due(x.of(21, 10), 0);
        x.strike(0, 3);
        due(x.redo(), 0, "the same number is no change");
        due(x.of(21, 10), 9);
        due(x.redo(), STATE);
        x.undo();
        x.strike(0, 9);
        due(x.redo(), 0, "a wrong call is no change");
        x.undo();
        x.strike(0, 1);
        due(x.redo(), STATE, "another came behind");
        due(x.count(4), 3);
        x.undo();
        x.lay();
        due(x.redo(), STATE, "lay() forgets them all");
        due(x.undo(), STATE);
        String[] forgetting = {"line", "sum", "set", "strikes"};
        for (String call : forgetting) {
            x = bells(3, 2, 5, 5, 5);
            x.strike(0, 1);
            x.strike(0, 2);
            x.undo();
            x.row(0, 0, 3);
            switch (call) {
                case "line": x.line(1, 10003); break;
                case "sum": x.sum(2, 1); break;
                case "set": x.set(0, 4); break;
                default: x.strikes(0, 0, 2, 1);
            }
            due(x.redo(), STATE, call + "() forgets them all");
            due(x.undo(), STATE, call + "() forgets them all");
        }
    }

    private static void promise31() {
        AnyTwoBells x = new AnyTwoBells();
        due(x.body(-1), BAD);
        due(x.body(8), BAD);
        for (int k = 0; k < 50; k++) {
            due(x.body(k % 8), k);
        }
        due(x.body(8), BAD, "BAD is named ahead of FULL");
        due(x.body(0), FULL);
        due(x.count(5), 50);
    }

    private static void dueAct(int kind, int act, int want, int... trace) {
        AnyTwoBells x = new AnyTwoBells();
        for (int k = 0; k < 3; k++) {
            x.body(0);
        }
        x.body(kind);
        due(x.act(3, act, 10), want, "kind " + kind + ", act " + act);
        due(x.count(6), trace.length, "kind " + kind + ", act " + act + ": how many ran");
        for (int i = 0; i < trace.length; i++) {
            due(x.trace(i), trace[i], "kind " + kind + ", act " + act + ": trace " + i);
        }
        due(x.trace(trace.length), BAD);
    }

    /** All acts of all kinds with x 10 as body number 3. */
    private static void promise32() {
        dueAct(0, 0, 13, 1);
        dueAct(0, 1, 26, 10, 1);
        dueAct(0, 2, 9, 11);
        dueAct(0, 3, 24, 2, 10, 1, 11);
        dueAct(1, 0, 16, 20, 1);
        dueAct(1, 1, 32, 10, 20, 1);
        dueAct(1, 2, 9, 11);
        dueAct(1, 3, 30, 2, 10, 20, 1, 11);
        dueAct(2, 0, 13, 1);
        dueAct(2, 1, -26, 30, 10, 1);
        dueAct(2, 2, 9, 11);
        dueAct(2, 3, -28, 2, 30, 10, 1, 11);
        dueAct(3, 0, 13, 1);
        dueAct(3, 1, -28, 41, 30, 10, 1);
        dueAct(3, 2, 27, 40, 11);
        dueAct(3, 3, -34, 2, 41, 30, 10, 1, 40, 11);
        dueAct(4, 0, 13, 1);
        dueAct(4, 1, 26, 10, 1);
        dueAct(4, 2, 4, 50, 11, 1);
        dueAct(4, 3, 26 - (2 - 4 - 1), 2, 10, 1, 50, 11, 1);
        dueAct(5, 0, 16, 20, 1);
        dueAct(5, 1, 32, 10, 20, 1);
        dueAct(5, 2, 9, 11);
        dueAct(5, 3, 30 ^ 5, 60, 2, 10, 20, 1, 11);
        dueAct(6, 0, 26, 70, 1);
        dueAct(6, 1, 52, 10, 70, 1);
        dueAct(6, 2, 9, 11);
        dueAct(6, 3, 50, 2, 10, 70, 1, 11);
        dueAct(7, 0, 13, 1);
        dueAct(7, 1, -28 + 3, 80, 41, 30, 10, 1, 40, 11);
        dueAct(7, 2, 27, 40, 11);
        dueAct(7, 3, -25 - 6 - 1, 81, 2, 80, 41, 30, 10, 1, 40, 11, 40, 11);
        AnyTwoBells x = new AnyTwoBells();
        x.body(0);
        x.body(0);
        due(x.act(1, 0, Integer.MAX_VALUE), Integer.MIN_VALUE, "an int that wraps");
        due(x.act(1, 1, 1 << 30), 2 + Integer.MIN_VALUE);
        int[][] none = {{-1, 0}, {2, 0}, {0, -1}, {0, 4}};
        for (int[] n : none) {
            x.act(0, 3, 5);
            due(x.count(6), 4);
            due(x.act(n[0], n[1], 7), 0, "no such table or act");
            due(x.count(6), 0, "no trace then");
            due(x.trace(0), BAD);
        }
    }

    private static void promise33() {
        AnyTwoBells x = new AnyTwoBells();
        due(x.trace(0), BAD);
        x.body(7);
        x.act(0, 3, 1);
        due(x.trace(-1), BAD);
        due(x.trace(0), 81);
        due(x.trace(10), 11);
        due(x.trace(11), BAD);
        due(x.trace(24), BAD);
        x.act(0, 0, 1);
        due(x.trace(0), 1, "of the latest act");
        due(x.trace(1), BAD);
    }

    private static void promise34() {
        AnyTwoBells x = new AnyTwoBells();
        due(x.keep(0, 0), BAD, "no such body");
        x.body(3);
        due(x.keep(0, 0), 1);
        due(x.taken(0, 3), 3);
        due(x.keep(0, 1), BAD);
        due(x.keep(0, -2), BAD);
        due(x.keep(6, 0), BAD);
        due(x.keep(-1, -1), BAD);
        due(x.taken(0, 3), 3);
        due(x.keep(0, -1), 1);
        due(x.taken(0, 3), -11);
        due(x.keep(5, -1), 1);
        x.row(1, 2, 4);
        due(x.keep(1, 0), 1, "a table takes a row's place");
        due(x.put(1, 0, 1), -12);
        x.row(1, 2, 4);
        x.keep(1, -1);
        due(x.put(1, 0, 1), -11);
    }

    private static void promise35() {
        AnyTwoBells x = new AnyTwoBells();
        due(x.row(6, 0, 1), BAD);
        due(x.row(-1, 0, 1), BAD);
        due(x.row(0, 5, 1), BAD);
        due(x.row(0, -1, 1), BAD);
        due(x.row(0, 0, 61), BAD);
        due(x.row(0, 0, -1), -14);
        due(x.row(0, 5, -1), BAD, "BAD is named ahead of -14");
        due(x.row(0, 0, Integer.MIN_VALUE), -14);
        due(x.put(0, 0, 1), -11, "no row came");
        due(x.row(0, 3, 0), 1);
        due(x.put(0, 0, 1), -13);
        due(x.row(0, 3, 60), 1);
        due(x.put(0, 59, 1), 1);
        due(x.put(0, 60, 1), -13);
        due(x.row(0, 3, -1), -14);
        due(x.element(0, 59), 1, "the row stays");
        due(x.row(0, 3, 60), 1);
        due(x.element(0, 59), 0, "0 at first");
        x.row(1, 3, 1);
        x.put(1, 0, 9);
        x.row(0, 3, 60);
        due(x.element(1, 0), 9, "another shelf stays");
        due(x.row(5, 4, 1), 1);
        due(x.element(5, 0), 0);
    }

    private static void promise36() {
        AnyTwoBells x = new AnyTwoBells();
        x.body(0);
        x.keep(5, 0);
        due(x.put(6, 0, 1), BAD);
        due(x.put(-1, 0, 1), BAD);
        due(x.put(0, 0, 1), -11);
        due(x.put(0, -1, 1), -11, "-11 is named ahead of -13");
        due(x.put(5, 0, 1), -12);
        long[] v = {0, 1, -1, 127, 128, 255, 256, 32767, 32768, 65536, 2147483647L, 2147483648L, 4294967296L, Long.MIN_VALUE, Long.MAX_VALUE};
        for (int sort = 0; sort < 5; sort++) {
            x.row(sort, sort, 3);
            for (long each : v) {
                long due = sort == 0 ? (byte) each : sort == 1 ? (short) each : sort == 2 ? (int) each : sort == 3 ? each : each != 0 ? 1 : 0;
                due(x.put(sort, 1, each), 1);
                due(x.element(sort, 1), due, "sort " + sort + ", " + each);
            }
            due(x.element(sort, 0), 0);
            due(x.element(sort, 2), 0);
            due(x.put(sort, 3, 1), -13);
            due(x.put(sort, -1, 1), -13);
            due(x.put(sort, Integer.MIN_VALUE, 1), -13);
        }
    }

    private static void promise37() {
        AnyTwoBells x = new AnyTwoBells();
        x.body(0);
        x.keep(1, 0);
        x.row(2, 2, 2);
        x.put(2, 1, -11);
        due(x.element(2, 0), 0);
        due(x.element(2, 1), -11);
        due(x.element(6, 0), Long.MIN_VALUE);
        due(x.element(-1, 0), Long.MIN_VALUE);
        due(x.element(0, 0), Long.MIN_VALUE);
        due(x.element(1, 0), Long.MIN_VALUE);
        due(x.element(2, 2), Long.MIN_VALUE);
        due(x.element(2, -1), Long.MIN_VALUE);
    }

    private static AnyTwoBells shelves() {
        AnyTwoBells x = new AnyTwoBells();
        x.body(0);
        x.row(0, 2, 5);
        x.row(1, 2, 3);
        x.row(2, 3, 5);
        x.keep(3, 0);
        for (int i = 0; i < 5; i++) {
            x.put(0, i, i + 1);
        }
        return x;
    }

    private static void dueElements(AnyTwoBells x, int shelf, int... elements) {
        for (int i = 0; i < elements.length; i++) {
            due(x.element(shelf, i), elements[i], "element(" + shelf + ", " + i + ")");
        }
    }

    private static void promise38() {
        AnyTwoBells x = shelves();
        due(x.shift(0, 0, 0, 1, 4), 4);
        dueElements(x, 0, 1, 1, 2, 3, 4);
        x = shelves();
        due(x.shift(0, 1, 0, 0, 4), 4);
        dueElements(x, 0, 2, 3, 4, 5, 5);
        due(x.shift(0, 2, 1, 0, 3), 3);
        dueElements(x, 1, 4, 5, 5);
        due(x.shift(0, 5, 1, 3, 0), 0);
        due(x.shift(6, 0, 0, 0, 0), BAD);
        due(x.shift(0, 0, -1, 0, 0), BAD);
        due(x.shift(4, 0, 0, 0, 1), -11);
        due(x.shift(0, 0, 4, 0, 1), -11);
        due(x.shift(3, 0, 4, 0, 1), -11, "-11 is named ahead of -12");
        due(x.shift(3, 0, 0, 0, 1), -12);
        due(x.shift(0, 0, 3, 0, 1), -12);
        due(x.shift(3, 0, 3, 0, 0), -12, "tables");
        due(x.shift(0, 0, 2, 0, 1), -12, "unlike sorts");
        due(x.shift(0, 9, 2, 0, 1), -12, "-12 is named ahead of -13");
        due(x.shift(0, 0, 1, 0, 4), -13);
        due(x.shift(0, 3, 1, 0, 3), -13);
        due(x.shift(0, -1, 1, 0, 1), -13);
        due(x.shift(0, 0, 1, -1, 1), -13);
        due(x.shift(0, 0, 1, 0, -1), -13);
        due(x.shift(0, 6, 1, 0, 0), -13);
        due(x.shift(0, 0, 1, 4, 0), -13);
        due(x.shift(0, Integer.MAX_VALUE, 1, 0, Integer.MAX_VALUE), -13);
        due(x.shift(0, 1, 1, Integer.MAX_VALUE, Integer.MAX_VALUE), -13);
        due(x.shift(0, Integer.MIN_VALUE, 1, 0, Integer.MIN_VALUE), -13);
        dueElements(x, 0, 2, 3, 4, 5, 5);
        dueElements(x, 1, 4, 5, 5);
    }

    private static void promise39() {
        boolean[][] under = new boolean[8][8];
        int[][] chains = {{0}, {1, 0}, {2, 0}, {3, 2, 0}, {4, 0}, {5, 1, 0}, {6, 0}, {7, 3, 2, 0}};
        for (int kind = 0; kind < 8; kind++) {
            for (int above : chains[kind]) {
                under[kind][above] = true;
            }
        }
        AnyTwoBells x = new AnyTwoBells();
        for (int kind = 0; kind < 8; kind++) {
            x.keep(2, x.body(kind));
            for (int k = 0; k < 8; k++) {
                due(x.taken(2, k), under[kind][k] ? kind : -12, "kind " + kind + " as " + k);
            }
        }
        due(x.taken(2, 8), BAD);
        due(x.taken(2, -1), BAD);
        due(x.taken(6, 0), BAD);
        due(x.taken(-1, 0), BAD);
        due(x.taken(0, 0), -11);
        due(x.taken(0, 8), BAD);
        x.row(1, 0, 4);
        due(x.taken(1, 0), -12, "a row");
    }

    private static void promise40() {
        AnyTwoBells x = bells(7, 3, 5, 5);
        feed(x, "h+b");
        x.strike(0, 1);
        x.strike(0, 2);
        x.undo();
        x.body(0);
        x.body(7);
        x.body(0);
        x.act(1, 3, 0);
        int[] counts = {2, 7, 3, 3, 1, 3, 11};
        for (int what = 0; what < counts.length; what++) {
            due(x.count(what), counts[what], "count(" + what + ")");
        }
        due(x.count(7), BAD);
        due(x.count(-1), BAD);
    }

    public static void main(String[] args) {
        about = "promise 1"; promise1();
        about = "promise 2"; promise2();
        about = "promise 3"; promise3();
        about = "promise 4"; promise4();
        about = "promise 5"; promise5();
        about = "promise 6"; promise6();
        about = "promise 7"; promise7();
        about = "promise 8"; promise8();
        about = "promise 9"; promise9();
        about = "promise 10"; promise10();
        about = "promise 11"; promise11();
        about = "promise 12"; promise12();
        about = "promise 13"; promise13();
        about = "promise 14"; promise14();
        about = "promise 15"; promise15();
        about = "promise 16"; promise16();
        about = "promise 17"; promise17();
        about = "promise 18"; promise18();
        about = "promise 19"; promise19();
        about = "promise 20"; promise20();
        about = "promise 21"; promise21();
        about = "promise 22"; promise22();
        about = "promise 23"; promise23();
        about = "promise 24"; promise24();
        about = "promise 25"; promise25();
        about = "promise 26"; promise26();
        about = "promise 27"; promise27();
        about = "promise 28"; promise28();
        about = "promise 29"; promise29();
        about = "promise 30"; promise30();
        about = "promise 31"; promise31();
        about = "promise 32"; promise32();
        about = "promise 33"; promise33();
        about = "promise 34"; promise34();
        about = "promise 35"; promise35();
        about = "promise 36"; promise36();
        about = "promise 37"; promise37();
        about = "promise 38"; promise38();
        about = "promise 39"; promise39();
        about = "promise 40"; promise40();
        System.out.println((asked - wrong) + " passed, " + wrong + " failed");
        if (wrong != 0) {
            System.exit(1);
        }
    }
}
