/** The boundaries that promises 31 to 40 name: bodies, acts, the trace, shelves, counts. */
public final class ShelvesEdgesTest {
    private static final String[] SORTS = {"bytes", "shorts", "ints", "longs", "booleans"};

    public static void main(String[] args) {
        body();
        act();
        acts();
        actsThatWrap();
        trace();
        keep();
        row();
        put();
        element();
        shift();
        taken();
        count();
        Edges.close(31, 40);
    }

    private static void body() {
        Edges.edge(31, "KINDS 0 .. 7", """
            body(-1) = BAD  body(0) = 0  body(7) = 1  body(8) = BAD  body(MIN) = BAD  body(MAX) = BAD  count(5) = 2
            """);
        Edges.edge(31, "BODIES 0 .. 49", """
            times 48 body(3)
            body(4) = 48  body(5) = 49  body(6) = FULL  count(5) = 50  act(49, 0, 0) = 52  act(50, 0, 0) = 0  count(6) = 0
            """);
        Edges.edge(31, "BAD ahead of FULL", "times 50 body(0)\nbody(8) = BAD  body(-1) = BAD  body(0) = FULL");
        Edges.edge(31, "a refused one takes no number", "body(8) = BAD  body(0) = 0  body(-1) = BAD  body(0) = 1");
        Edges.edge(31, "each of its own KIND", Edges.each(0, 7, k -> "body("
            + k + ") = " + k + "  keep(0, " + k + ")  taken(0, 0) = " + k)
            + Edges.each(0, 7, k -> "keep(1, " + k + ")  taken(1, " + k + ") = " + k));
    }

    private static void act() {
        Edges.edge(32, "no such TABLE", """
            act(0, 0, 5) = 0  body(0)  act(0, 3, 5)  count(6) = 4  act(1, 0, 5) = 0  count(6) = 0  trace(0) = BAD
            """);
        Edges.edge(32, "no such TABLE below 0", """
            body(0)  act(0, 3, 5)  act(-1, 0, 5) = 0  count(6) = 0  trace(0) = BAD  act(0, 3, 5)  act(MIN, 3, 5) = 0
            count(6) = 0
            """);
        Edges.edge(32, "no such TABLE far off", """
            body(0)  act(0, 3, 5)  act(MAX, 3, 5) = 0  count(6) = 0  act(0, 3, 5)  act(50, 3, 5) = 0  count(6) = 0
            trace(0) = BAD
            """);
        Edges.edge(32, "no such ACT", """
            body(0)  act(0, 3, 5)  act(0, 4, 5) = 0  count(6) = 0  trace(0) = BAD  act(0, 0, 5) = 5  count(6) = 1
            act(0, -1, 5) = 0  count(6) = 0  trace(0) = BAD
            """);
        Edges.edge(32, "no such ACT far off", """
            body(0)  act(0, 3, 5)  act(0, MIN, 5) = 0  count(6) = 0  act(0, 3, 5)  act(0, MAX, 5) = 0  count(6) = 0
            """);
        Edges.edge(32, "n is its number", Edges.each(0, 49, k -> "body("
            + (k % 8) + ")") + "act(0, 0, 7) = 7  act(1, 0, 7) = 11  act(48, 0, 7) = 55  act(49, 0, 7) = 59  "
            + "act(46, 0, 7) = 106  act(48, 2, 7) = 55  act(40, 2, 63) = 23");
        Edges.edge(32, "x is any int", """
            body(0)  body(0)
            act(1, 0, MAX) = MIN  act(1, 0, MIN) = -2147483647  act(1, 0, -1) = 0  act(0, 0, MIN) = MIN
            act(0, 0, MAX) = MAX
            """);
        Edges.edge(32, "* 2 wraps", """
            body(0)  body(6)
            act(0, 1, MAX) = -2  act(0, 1, MIN) = 0  act(0, 1, 1073741824) = MIN  act(0, 1, -1073741824) = MIN
            act(0, 1, -1073741825) = 2147483646  act(1, 0, 1073741823) = MIN  act(1, 1, 536870911) = MIN
            """);
        Edges.edge(32, "+ 3 wraps", """
            body(1)
            act(0, 0, MAX) = -2147483646  act(0, 0, 2147483644) = MAX  act(0, 0, 2147483645) = MIN
            """);
        Edges.edge(32, "- wraps", """
            body(2)  body(4)
            act(0, 1, MIN) = 0  act(0, 1, -1073741824) = MIN  act(0, 1, 1073741824) = MIN  act(1, 2, MIN) = 2147483646
            """);
        Edges.edge(32, "x + 1 wraps, * 3 wraps", """
            body(3)
            act(0, 1, MAX) = 0  act(0, 1, 1073741822) = -2147483646  act(0, 2, MAX) = 2147483645  act(0, 2, MIN) = MIN
            act(0, 2, 715827882) = 2147483646  act(0, 2, 715827883) = -2147483647
            """);
        Edges.edge(32, "^ of all bits", """
            body(0)  body(0)  body(0)  body(5)
            act(2, 2, -1) = -3  act(2, 2, MIN) = -2147483646  act(2, 2, 2) = 0  act(0, 2, 9) = 9  act(1, 2, 0) = 1
            act(3, 3, 0) = 15  act(3, 3, 1) = 9
            """);
        Edges.edge(32, "the table acts, whatever stands on shelves", """
            body(6)  keep(0, 0)  act(0, 0, 4) = 8  keep(0, -1)  act(0, 0, 4) = 8
            """);
    }

    /** An act of a table of that kind, the fourth one (n 3), with x 10. */
    private static String fourth(int kind, int act, int answer, int... bodies) {
        StringBuilder run = new StringBuilder("body(7)  body(6)  body(5)  body(" + kind + ") = 3\nact(3, " + act + ", 10) = " + answer
        + "\n");
        for (int i = 0; i < bodies.length; i++) {
            run.append("trace(").append(i).append(") = ").append(bodies[i]).append('\n');
        }
        return run + "trace(" + bodies.length + ") = BAD  count(6) = " + bodies.length;
    }

    private static void acts() {
        Edges.edge(32, "TABLE strikes", fourth(0, 0, 13, 1));
        Edges.edge(32, "TABLE sounds", fourth(0, 1, 26, 10, 1));
        Edges.edge(32, "TABLE rests", fourth(0, 2, 9, 11));
        Edges.edge(32, "TABLE tells", fourth(0, 3, 24, 2, 10, 1, 11));
        Edges.edge(32, "PLAIN strikes", fourth(1, 0, 16, 20, 1));
        Edges.edge(32, "PLAIN sounds", fourth(1, 1, 32, 10, 20, 1));
        Edges.edge(32, "PLAIN rests", fourth(1, 2, 9, 11));
        Edges.edge(32, "PLAIN tells", fourth(1, 3, 30, 2, 10, 20, 1, 11));
        Edges.edge(32, "SUM strikes", fourth(2, 0, 13, 1));
        Edges.edge(32, "SUM sounds", fourth(2, 1, -26, 30, 10, 1));
        Edges.edge(32, "SUM rests", fourth(2, 2, 9, 11));
        Edges.edge(32, "SUM tells", fourth(2, 3, -28, 2, 30, 10, 1, 11));
        Edges.edge(32, "LINE strikes", fourth(3, 0, 13, 1));
        Edges.edge(32, "LINE sounds", fourth(3, 1, -28, 41, 30, 10, 1));
        Edges.edge(32, "LINE rests", fourth(3, 2, 27, 40, 11));
        Edges.edge(32, "LINE tells", fourth(3, 3, -34, 2, 41, 30, 10, 1, 40, 11));
        Edges.edge(32, "ZERO strikes", fourth(4, 0, 13, 1));
        Edges.edge(32, "ZERO sounds", fourth(4, 1, 26, 10, 1));
        Edges.edge(32, "ZERO rests", fourth(4, 2, 4, 50, 11, 1));
        Edges.edge(32, "ZERO tells", fourth(4, 3, 29, 2, 10, 1, 50, 11, 1));
        Edges.edge(32, "NIGHT strikes", fourth(5, 0, 16, 20, 1));
        Edges.edge(32, "NIGHT sounds", fourth(5, 1, 32, 10, 20, 1));
        Edges.edge(32, "NIGHT rests", fourth(5, 2, 9, 11));
        Edges.edge(32, "NIGHT tells", fourth(5, 3, 27, 60, 2, 10, 20, 1, 11));
        Edges.edge(32, "TOLD strikes", fourth(6, 0, 26, 70, 1));
        Edges.edge(32, "TOLD sounds", fourth(6, 1, 52, 10, 70, 1));
        Edges.edge(32, "TOLD rests", fourth(6, 2, 9, 11));
        Edges.edge(32, "TOLD tells", fourth(6, 3, 50, 2, 10, 70, 1, 11));
        Edges.edge(32, "CRACKED strikes", fourth(7, 0, 13, 1));
        Edges.edge(32, "CRACKED sounds", fourth(7, 1, -25, 80, 41, 30, 10, 1, 40, 11));
        Edges.edge(32, "CRACKED rests", fourth(7, 2, 27, 40, 11));
        Edges.edge(32, "CRACKED tells", fourth(7, 3, -32, 81, 2, 80, 41, 30, 10, 1, 40, 11, 40, 11));
    }

    /** All acts of all kinds with ints that wrap. */
    private static void actsThatWrap() {
        Edges.edge(32, "TABLE with any x", """
            body(7)  body(6)  body(5)  body(0) = 3
            act(3, 0, -1) = 2  act(3, 1, -1) = 4  act(3, 2, -1) = -4  act(3, 3, -1) = 2
            act(3, 0, 1000000007) = 1000000010  act(3, 1, 1000000007) = 2000000020  act(3, 2, 1000000007) = 1000000004
            act(3, 3, 1000000007) = 2000000018
            act(3, 0, MAX) = -2147483646  act(3, 1, MAX) = 4  act(3, 2, MAX) = 2147483644  act(3, 3, MAX) = 2
            act(3, 0, MIN) = -2147483645  act(3, 1, MIN) = 6  act(3, 2, MIN) = -2147483645  act(3, 3, MIN) = 4
            """);
        Edges.edge(32, "PLAIN with any x", """
            body(7)  body(6)  body(5)  body(1) = 3
            act(3, 0, -1) = 5  act(3, 1, -1) = 10  act(3, 2, -1) = -4  act(3, 3, -1) = 8
            act(3, 0, 1000000007) = 1000000013  act(3, 1, 1000000007) = 2000000026  act(3, 2, 1000000007) = 1000000004
            act(3, 3, 1000000007) = 2000000024
            act(3, 0, MAX) = -2147483643  act(3, 1, MAX) = 10  act(3, 2, MAX) = 2147483644  act(3, 3, MAX) = 8
            act(3, 0, MIN) = -2147483642  act(3, 1, MIN) = 12  act(3, 2, MIN) = -2147483645  act(3, 3, MIN) = 10
            """);
        Edges.edge(32, "SUM with any x", """
            body(7)  body(6)  body(5)  body(2) = 3
            act(3, 0, -1) = 2  act(3, 1, -1) = -4  act(3, 2, -1) = -4  act(3, 3, -1) = -6
            act(3, 0, 1000000007) = 1000000010  act(3, 1, 1000000007) = -2000000020  act(3, 2, 1000000007) = 1000000004
            act(3, 3, 1000000007) = -2000000022
            act(3, 0, MAX) = -2147483646  act(3, 1, MAX) = -4  act(3, 2, MAX) = 2147483644  act(3, 3, MAX) = -6
            act(3, 0, MIN) = -2147483645  act(3, 1, MIN) = -6  act(3, 2, MIN) = -2147483645  act(3, 3, MIN) = -8
            """);
        Edges.edge(32, "LINE with any x", """
            body(7)  body(6)  body(5)  body(3) = 3
            act(3, 0, -1) = 2  act(3, 1, -1) = -6  act(3, 2, -1) = -12  act(3, 3, -1) = -12
            act(3, 0, 1000000007) = 1000000010  act(3, 1, 1000000007) = -2000000022  act(3, 2, 1000000007) = -1294967284
            act(3, 3, 1000000007) = -2000000028
            act(3, 0, MAX) = -2147483646  act(3, 1, MAX) = -6  act(3, 2, MAX) = 2147483636  act(3, 3, MAX) = -12
            act(3, 0, MIN) = -2147483645  act(3, 1, MIN) = -8  act(3, 2, MIN) = -2147483639  act(3, 3, MIN) = -14
            """);
        Edges.edge(32, "ZERO with any x", """
            body(7)  body(6)  body(5)  body(4) = 3
            act(3, 0, -1) = 2  act(3, 1, -1) = 4  act(3, 2, -1) = -9  act(3, 3, -1) = 7
            act(3, 0, 1000000007) = 1000000010  act(3, 1, 1000000007) = 2000000020  act(3, 2, 1000000007) = 999999999
            act(3, 3, 1000000007) = 2000000023
            act(3, 0, MAX) = -2147483646  act(3, 1, MAX) = 4  act(3, 2, MAX) = 2147483639  act(3, 3, MAX) = 7
            act(3, 0, MIN) = -2147483645  act(3, 1, MIN) = 6  act(3, 2, MIN) = 2147483646  act(3, 3, MIN) = 9
            """);
        Edges.edge(32, "NIGHT with any x", """
            body(7)  body(6)  body(5)  body(5) = 3
            act(3, 0, -1) = 5  act(3, 1, -1) = 10  act(3, 2, -1) = -4  act(3, 3, -1) = 13
            act(3, 0, 1000000007) = 1000000013  act(3, 1, 1000000007) = 2000000026  act(3, 2, 1000000007) = 1000000004
            act(3, 3, 1000000007) = 2000000029
            act(3, 0, MAX) = -2147483643  act(3, 1, MAX) = 10  act(3, 2, MAX) = 2147483644  act(3, 3, MAX) = 13
            act(3, 0, MIN) = -2147483642  act(3, 1, MIN) = 12  act(3, 2, MIN) = -2147483645  act(3, 3, MIN) = 15
            """);
        Edges.edge(32, "TOLD with any x", """
            body(7)  body(6)  body(5)  body(6) = 3
            act(3, 0, -1) = 4  act(3, 1, -1) = 8  act(3, 2, -1) = -4  act(3, 3, -1) = 6
            act(3, 0, 1000000007) = 2000000020  act(3, 1, 1000000007) = -294967256  act(3, 2, 1000000007) = 1000000004
            act(3, 3, 1000000007) = -294967258
            act(3, 0, MAX) = 4  act(3, 1, MAX) = 8  act(3, 2, MAX) = 2147483644  act(3, 3, MAX) = 6
            act(3, 0, MIN) = 6  act(3, 1, MIN) = 12  act(3, 2, MIN) = -2147483645  act(3, 3, MIN) = 10
            """);
        Edges.edge(32, "CRACKED with any x", """
            body(7)  body(6)  body(5)  body(7) = 3
            act(3, 0, -1) = 2  act(3, 1, -1) = -3  act(3, 2, -1) = -12  act(3, 3, -1) = -10
            act(3, 0, 1000000007) = 1000000010  act(3, 1, 1000000007) = -2000000019  act(3, 2, 1000000007) = -1294967284
            act(3, 3, 1000000007) = -2000000026
            act(3, 0, MAX) = -2147483646  act(3, 1, MAX) = -3  act(3, 2, MAX) = 2147483636  act(3, 3, MAX) = -10
            act(3, 0, MIN) = -2147483645  act(3, 1, MIN) = -5  act(3, 2, MIN) = -2147483639  act(3, 3, MIN) = -12
            """);
    }

    private static void trace() {
        Edges.edge(33, "no act yet", "trace(0) = BAD  trace(-1) = BAD  body(0)  trace(0) = BAD");
        Edges.edge(33, "places that there are", """
            body(7)  act(0, 3, 1)  trace(-1) = BAD  trace(0) = 81  trace(10) = 11  trace(11) = BAD  trace(23) = BAD
            trace(24) = BAD  trace(MIN) = BAD  trace(MAX) = BAD
            """);
        Edges.edge(33, "one body", "body(0)  act(0, 0, 1)  trace(0) = 1  trace(1) = BAD");
        Edges.edge(33, "of the latest act alone", """
            body(7)  act(0, 3, 1)  act(0, 2, 1)  trace(0) = 40  trace(1) = 11  trace(2) = BAD  count(6) = 2
            """);
        Edges.edge(33, "other calls keep it", """
            body(7)  act(0, 2, 1)  body(8) = BAD  body(0) = 1  keep(0, 0)  taken(0, 7) = 7  bell(1, 0)  lay()  trace(0) = 40
            trace(1) = 11  count(6) = 2
            """);
    }

    private static void keep() {
        Edges.edge(34, "SHELVES 0 .. 5", """
            body(3)
            keep(-1, 0) = BAD  keep(0, 0) = 1  keep(5, 0) = 1  keep(6, 0) = BAD  keep(-1, -1) = BAD  keep(6, -1) = BAD
            keep(MIN, 0) = BAD  keep(MAX, 0) = BAD  taken(0, 3) = 3  taken(5, 3) = 3  taken(1, 3) = -11
            """);
        Edges.edge(34, "bodies that there are", """
            keep(0, 0) = BAD  body(3)  keep(0, 0) = 1  keep(0, 1) = BAD  keep(0, -2) = BAD  keep(0, MIN) = BAD
            keep(0, MAX) = BAD  keep(0, 50) = BAD  taken(0, 3) = 3
            """);
        Edges.edge(34, "body 49", "times 50 body(3)\nkeep(0, 49) = 1  keep(0, 50) = BAD  taken(0, 0) = 3");
        Edges.edge(34, "nothing", "keep(0, -1) = 1  body(3)  keep(0, 0) = 1  keep(0, -1) = 1  taken(0, 3) = -11  keep(0, -1) = 1");
        Edges.edge(34, "nothing instead of a ROW", """
            ints 0 5 6
            keep(0, -1) = 1  element(0, 0) = LMIN  put(0, 0, 1) = -11  shift(0, 0, 0, 0, 0) = -11
            """);
        Edges.edge(34, "a TABLE instead of a ROW", """
            body(3)
            ints 0 5 6
            keep(0, 0) = 1  element(0, 0) = LMIN  put(0, 0, 1) = -12  taken(0, 2) = 3
            """);
        Edges.edge(34, "a ROW instead of a TABLE", "body(3)  keep(0, 0)\nints 0 5 6\ntaken(0, 3) = -12\nshelf 0 is 5 6");
        Edges.edge(34, "one TABLE on many shelves", "body(3)  body(4)\n"
            + Edges.each(0, 5, s -> "keep(" + s + ", " + (s % 2) + ") = 1") + Edges.each(0, 5, s -> "taken(" + s + ", 0) = " + (3 + s % 2)));
        Edges.edge(34, "that shelf alone", """
            body(3)
            ints 0 5 6
            ints 2 7 8
            keep(1, 0) = 1  keep(1, -1) = 1
            shelf 0 is 5 6
            shelf 2 is 7 8
            """);
    }

    private static void row() {
        Edges.edge(35, "SHELVES 0 .. 5", """
            row(-1, 0, 1) = BAD  row(0, 0, 1) = 1  row(5, 0, 1) = 1  row(6, 0, 1) = BAD  row(MIN, 0, 1) = BAD
            row(MAX, 0, 1) = BAD  element(5, 0) = 0  element(4, 0) = LMIN
            """);
        Edges.edge(35, "sorts 0 .. 4", """
            row(0, -1, 1) = BAD  row(0, 0, 1) = 1  row(0, 4, 1) = 1  row(0, 5, 1) = BAD  row(0, MIN, 1) = BAD
            row(0, MAX, 1) = BAD
            """);
        Edges.edge(35, "0 .. 60 elements", Edges.each(0, 4, k -> "row(0, "
            + k + ", 60) = 1  put(0, 59, 1) = 1  put(0, 60, 1) = -13  row(0, "
            + k + ", 61) = BAD  element(0, 59) = 1  row(0, " + k + ", 0) = 1  put(0, 0, 1) = -13"));
        Edges.edge(35, "above 60", "row(0, 0, 61) = BAD  row(0, 0, MAX) = BAD  row(0, 0, 62) = BAD  put(0, 0, 1) = -11");
        Edges.edge(35, "a size below 0", "row(0, 0, -1) = -14  row(0, 0, MIN) = -14  row(5, 4, -60) = -14  put(0, 0, 1) = -11");
        Edges.edge(35, "BAD ahead of -14", "row(6, 0, -1) = BAD  row(-1, 0, -1) = BAD  row(0, 5, -1) = BAD  row(0, -1, -1) = BAD");
        Edges.edge(35, "a refused one keeps what is there", """
            ints 0 5 6
            row(0, 2, 61) = BAD  row(0, 5, 2) = BAD  row(0, 2, -1) = -14
            shelf 0 is 5 6
            body(3)  keep(0, 0)  row(0, 0, 61) = BAD  row(0, 0, -1) = -14  taken(0, 3) = 3
            """);
        Edges.edge(35, "0 at first, though there was a row", """
            ints 0 5 6 7
            row(0, 2, 3) = 1
            shelf 0 is 0 0 0
            longs 0 5 6 7
            row(0, 4, 2) = 1
            shelf 0 is 0 0
            """);
        Edges.edge(35, "a shorter row, then a longer one", """
            ints 0 5 6 7
            row(0, 2, 1) = 1  row(0, 2, 3) = 1
            shelf 0 is 0 0 0
            keep(0, -1)  row(0, 2, 3) = 1
            shelf 0 is 0 0 0
            """);
        Edges.edge(35, "that shelf alone, all 60 of each", full()
            + "row(2, 3, 60) = 1  element(1, 59) = 21  element(3, 0) = 30  element(2, 0) = 0  element(2, 59) = 0  "
            + "row(5, 3, 60) = 1  element(5, 0) = 0  element(5, 59) = 0  element(4, 59) = 51  row(0, 3, 60) = 1  "
            + "element(0, 59) = 0  element(1, 0) = 10");
        Edges.edge(35, "an empty row is a ROW", """
            row(0, 0, 0) = 1  element(0, 0) = LMIN  put(0, 0, 1) = -13  taken(0, 0) = -12  shift(0, 0, 0, 0, 0) = 0
            """);
    }

    /** All six shelves hold 60 longs: 10 s + 10 in the first, 10 s + 11 in the last one. */
    private static String full() {
        return Edges.each(0, 5, s -> "row(" + s + ", 3, 60) = 1  put(" + s + ", 0, " + 10 * s + ") = 1  put(" + s + ", 59, " + (10 * s + 11)
            + ") = 1")
            + Edges.each(0, 5, s -> "element(" + s + ", 0) = " + 10 * s + "  element(" + s + ", 59) = " + (10 * s + 11));
    }

    private static void put() {
        Edges.edge(36, "SHELVES 0 .. 5", """
            row(5, 3, 1)
            put(-1, 0, 1) = BAD  put(5, 0, 7) = 1  put(6, 0, 1) = BAD  put(MIN, 0, 1) = BAD  put(MAX, 0, 1) = BAD
            element(5, 0) = 7
            """);
        Edges.edge(36, "nothing is there", "put(0, 0, 1) = -11  put(0, -1, 1) = -11  put(0, 60, 1) = -11");
        Edges.edge(36, "a TABLE is no ROW", "body(0)  keep(0, 0)  put(0, 0, 1) = -12  put(0, -1, 1) = -12  put(0, 60, 1) = -12");
        for (int sort = 0; sort < SORTS.length; sort++) {
            Edges.edge(36, "places of " + SORTS[sort], SORTS[sort]
                + " 0 1 1 1\nput(0, -1, 0) = -13  put(0, 3, 0) = -13  put(0, MIN, 0) = -13  put(0, MAX, 0) = -13  "
                + "put(0, 59, 0) = -13  put(0, 60, 0) = -13\nshelf 0 is 1 1 1\nput(0, 0, 0) = 1  put(0, 2, 0) = 1\n"
                + "shelf 0 is 0 1 0");
        }
        Edges.edge(36, "a row of 60", """
            row(0, 3, 60)  put(0, 59, LMAX) = 1  put(0, 60, 5) = -13  element(0, 59) = LMAX  element(0, 58) = 0
            """);
        Edges.edge(36, "lowest bits of bytes", """
            bytes 0 127 128 255 256 -128 -129 32767 LMAX LMIN
            shelf 0 is 127 -128 -1 0 -128 127 -1 -1 0
            """);
        Edges.edge(36, "lowest bits of shorts", """
            shorts 0 32767 32768 65535 65536 -32768 -32769 128 LMAX LMIN
            shelf 0 is 32767 -32768 -1 0 -32768 32767 128 -1 0
            """);
        Edges.edge(36, "lowest bits of ints", """
            ints 0 2147483647 2147483648 4294967295 4294967296 -2147483648 -2147483649 65536 LMAX LMIN
            shelf 0 is 2147483647 -2147483648 -1 0 -2147483648 2147483647 65536 -1 0
            """);
        Edges.edge(36, "all bits of longs", """
            longs 0 LMAX LMIN 4294967296 -1 2147483648
            put(0, 0, LMIN) = 1  element(0, 0) = LMIN  put(0, 0, LMAX) = 1  element(0, 0) = LMAX  element(0, 2) = 4294967296
            element(0, 3) = -1  element(0, 4) = 2147483648
            """);
        Edges.edge(36, "a boolean: whether it is not 0", """
            booleans 0 0 1 2 -1 256 65536 4294967296 LMIN LMAX
            shelf 0 is 0 1 1 1 1 1 1 1 1
            put(0, 8, 0) = 1  element(0, 8) = 0  put(0, 1, 0) = 1  element(0, 1) = 0
            """);
        Edges.edge(36, "that element alone", full() + """
            put(3, 0, 99) = 1  put(2, 59, 98) = 1  element(3, 0) = 99  element(2, 59) = 98  element(3, 1) = 0
            element(2, 58) = 0  element(4, 0) = 40  element(1, 59) = 21
            """);
    }

    private static void element() {
        Edges.edge(37, "SHELVES 0 .. 5", """
            ints 5 7
            element(-1, 0) = LMIN  element(5, 0) = 7  element(6, 0) = LMIN  element(MIN, 0) = LMIN  element(MAX, 0) = LMIN
            """);
        Edges.edge(37, "nothing is there", """
            element(0, 0) = LMIN  element(0, -1) = LMIN
            ints 0 5
            element(0, 0) = 5  keep(0, -1)  element(0, 0) = LMIN
            """);
        Edges.edge(37, "a TABLE is no ROW", "body(0)  keep(0, 0)  element(0, 0) = LMIN");
        for (int sort = 0; sort < SORTS.length; sort++) {
            Edges.edge(37, "places of " + SORTS[sort], SORTS[sort]
                + " 0 1 0 1\nelement(0, -1) = LMIN  element(0, 0) = 1  element(0, 1) = 0  element(0, 2) = 1  "
                + "element(0, 3) = LMIN  element(0, 59) = LMIN  element(0, 60) = LMIN  element(0, MIN) = LMIN  "
                + "element(0, MAX) = LMIN");
        }
        Edges.edge(37, "an empty row", "row(0, 3, 0)  element(0, 0) = LMIN  element(0, -1) = LMIN");
        Edges.edge(37, "a row of 60", "row(0, 0, 60)  put(0, 59, 3)  element(0, 59) = 3  element(0, 60) = LMIN");
        Edges.edge(37, "elements that look like refusals", """
            longs 0 -1 -11 -12 -13 -2
            element(0, 0) = -1  element(0, 1) = -11  element(0, 2) = -12  element(0, 3) = -13  element(0, 4) = -2
            """);
    }

    private static void shift() {
        String two = "ints 0 1 2 3 4 5\nints 1 7 8 9\n";
        Edges.edge(38, "SHELVES 0 .. 5", two + """
            ints 5 6
            shift(-1, 0, 0, 0, 1) = BAD  shift(6, 0, 0, 0, 1) = BAD  shift(0, 0, -1, 0, 1) = BAD  shift(0, 0, 6, 0, 1) = BAD
            shift(MIN, 0, MAX, 0, 1) = BAD  shift(0, 0, MIN, 0, 0) = BAD  shift(MAX, 0, 0, 0, 0) = BAD
            shift(5, 0, 0, 0, 1) = 1  shift(1, 0, 5, 0, 1) = 1
            shelf 0 is 6 2 3 4 5
            shelf 5 is 7
            """);
        Edges.edge(38, "BAD ahead of -11", two + "shift(6, 0, 4, 0, 1) = BAD  shift(4, 0, 6, 0, 1) = BAD  shift(-1, 0, 4, 0, 0) = BAD");
        Edges.edge(38, "nothing on either", two + """
            shift(4, 0, 0, 0, 1) = -11  shift(0, 0, 4, 0, 1) = -11  shift(4, 0, 4, 0, 1) = -11  shift(4, 0, 3, 0, 0) = -11
            shift(4, 0, 0, 0, 0) = -11  shift(0, 0, 4, 0, 0) = -11
            """);
        Edges.edge(38, "-11 ahead of -12 and -13", two + """
            body(0)  keep(3, 0)  shift(3, 0, 4, 0, 1) = -11  shift(4, 0, 3, 0, 1) = -11  shift(4, -1, 0, 0, 9) = -11
            shift(0, -1, 4, 0, -1) = -11
            """);
        Edges.edge(38, "a TABLE is no ROW", two + """
            body(0)  keep(3, 0)  shift(3, 0, 0, 0, 1) = -12  shift(0, 0, 3, 0, 1) = -12  shift(3, 0, 3, 0, 1) = -12
            shift(3, 0, 3, 0, 0) = -12  shift(3, 0, 0, 0, 0) = -12  shift(0, 0, 3, 0, 0) = -12
            """);
        StringBuilder unlike = new StringBuilder();
        for (int one = 0; one < 5; one++) {
            for (int other = 0; other < 5; other++) {
                unlike.append("shift(" + one + ", 0, " + other + ", 0, 1) = " + (one == other ? 1 : -12) + "\n");
            }
        }
        Edges.edge(38, "unlike sorts", Edges.each(0, 4, k -> SORTS[k] + " " + k + " 1 1") + unlike);
        Edges.edge(38, "-12 ahead of -13", two + """
            longs 2 1 1
            shift(0, 9, 2, 0, 1) = -12  shift(0, 0, 2, 0, -1) = -12  shift(2, 0, 0, -1, 1) = -12  shift(0, 0, 2, 0, 9) = -12
            shift(0, 0, 2, 0, 0) = -12
            """);
        Edges.edge(38, "i from 0 on, to the row's end", two + """
            shift(0, -1, 1, 0, 1) = -13  shift(0, 0, 1, 0, 1) = 1  shift(0, 4, 1, 1, 1) = 1  shift(0, 5, 1, 0, 1) = -13
            shift(0, 3, 1, 0, 2) = 2  shift(0, 3, 1, 0, 3) = -13  shift(0, 4, 1, 0, 2) = -13
            shelf 1 is 4 5 9
            """);
        Edges.edge(38, "j from 0 on, to the row's end", two + """
            shift(0, 0, 1, -1, 1) = -13  shift(0, 0, 1, 0, 3) = 3  shift(0, 0, 1, 0, 4) = -13  shift(0, 4, 1, 2, 1) = 1
            shift(0, 0, 1, 3, 1) = -13  shift(0, 0, 1, 2, 2) = -13
            shelf 1 is 1 2 5
            """);
        Edges.edge(38, "n below 0", two + """
            shift(0, 0, 1, 0, -1) = -13  shift(0, 1, 1, 1, -1) = -13  shift(0, 0, 1, 0, MIN) = -13
            shift(0, 5, 1, 3, -1) = -13
            """);
        Edges.edge(38, "none at all", two + """
            shift(0, 0, 1, 0, 0) = 0  shift(0, 5, 1, 3, 0) = 0  shift(0, 6, 1, 0, 0) = -13  shift(0, 0, 1, 4, 0) = -13
            shift(0, -1, 1, 0, 0) = -13  shift(0, 0, 1, -1, 0) = -13
            shelf 0 is 1 2 3 4 5
            shelf 1 is 7 8 9
            """);
        Edges.edge(38, "far off", two + """
            shift(0, MAX, 1, 0, 1) = -13  shift(0, 0, 1, MAX, 1) = -13  shift(0, 0, 1, 0, MAX) = -13
            shift(0, 1, 1, 1, MAX) = -13  shift(0, MIN, 1, 0, 1) = -13  shift(0, 0, 1, MIN, 1) = -13
            shift(0, MIN, 1, 0, MIN) = -13  shift(0, MAX, 1, MAX, MAX) = -13  shift(0, MAX, 1, MAX, MIN) = -13
            shift(0, 2, 1, 1, MIN) = -13
            """);
        Edges.edge(38, "empty rows", """
            row(0, 0, 0)  row(1, 0, 0)  shift(0, 0, 1, 0, 0) = 0  shift(0, 0, 1, 0, 1) = -13  shift(0, 1, 1, 0, 0) = -13
            shift(0, 0, 0, 0, 0) = 0
            """);
        Edges.edge(38, "the same row, further on", two + "shift(0, 0, 0, 1, 4) = 4\nshelf 0 is 1 1 2 3 4");
        Edges.edge(38, "the same row, further ahead", two + "shift(0, 1, 0, 0, 4) = 4\nshelf 0 is 2 3 4 5 5");
        Edges.edge(38, "the same row, two places on", two + "shift(0, 0, 0, 2, 3) = 3\nshelf 0 is 1 2 1 2 3");
        Edges.edge(38, "the same row, the same place", two + "shift(0, 0, 0, 0, 5) = 5\nshelf 0 is 1 2 3 4 5");
        Edges.edge(38, "the whole row of 60", full() + """
            put(2, 30, 77)  shift(2, 0, 4, 0, 60) = 60  element(4, 0) = 20  element(4, 30) = 77  element(4, 59) = 31
            element(3, 59) = 41  element(5, 0) = 50  shift(2, 0, 4, 0, 61) = -13  shift(2, 1, 4, 0, 60) = -13
            shift(5, 59, 0, 0, 1) = 1  element(0, 0) = 61  shift(5, 0, 3, 59, 1) = 1  element(3, 59) = 50
            element(4, 0) = 20  shift(5, 0, 3, 59, 2) = -13
            """);
        Edges.edge(38, "the row that they come from stays", two + "shift(1, 0, 0, 2, 3) = 3\nshelf 1 is 7 8 9\nshelf 0 is 1 2 7 8 9");
        Edges.edge(38, "each sort keeps what it holds", """
            bytes 0 -1 127
            bytes 1 0 0
            shift(0, 0, 1, 0, 2) = 2
            shelf 1 is -1 127
            booleans 2 1 0
            booleans 3 0 1
            shift(2, 0, 3, 0, 2) = 2
            shelf 3 is 1 0
            longs 4 4294967297 -5
            longs 5 0 0
            shift(4, 0, 5, 0, 2) = 2
            shelf 5 is 4294967297 -5
            """);
    }

    private static void taken() {
        Edges.edge(39, "SHELVES 0 .. 5", """
            body(0)  keep(0, 0)  keep(5, 0)
            taken(-1, 0) = BAD  taken(0, 0) = 0  taken(5, 0) = 0  taken(6, 0) = BAD  taken(MIN, 0) = BAD
            taken(MAX, 0) = BAD
            """);
        Edges.edge(39, "KINDS 0 .. 7", """
            body(7)  keep(0, 0)
            taken(0, -1) = BAD  taken(0, 0) = 7  taken(0, 7) = 7  taken(0, 8) = BAD  taken(0, MIN) = BAD
            taken(0, MAX) = BAD
            """);
        Edges.edge(39, "BAD ahead of -11 and -12", """
            taken(0, 8) = BAD  taken(0, -1) = BAD  taken(6, 8) = BAD  row(0, 0, 1)  taken(0, 8) = BAD  taken(0, -1) = BAD
            """);
        Edges.edge(39, "nothing is there", Edges.each(0, 7, k -> "taken(0, " + k + ") = -11"));
        for (int sort = 0; sort < SORTS.length; sort++) {
            Edges.edge(39, SORTS[sort] + " are no TABLE", SORTS[sort] + " 0 1\n" + Edges.each(0, 7, k -> "taken(0, " + k + ") = -12"));
        }
        int[][] above = {{0}, {1, 0}, {2, 0}, {3, 2, 0}, {4, 0}, {5, 1, 0}, {6, 0}, {7, 3, 2, 0}};
        for (int kind = 0; kind < 8; kind++) {
            StringBuilder run = new StringBuilder("body(" + kind + ")  keep(4, 0)\n");
            for (int k = 0; k < 8; k++) {
                int as = k;
                boolean under = java.util.Arrays.stream(above[kind]).anyMatch(one -> one == as);
                run.append("taken(4, ").append(k).append(") = ").append(under ? kind : -12).append('\n');
            }
            Edges.edge(39, "KIND " + kind + " for each", run.toString());
        }
        Edges.edge(39, "the TABLE that stands there now", """
            body(3)  body(4)  keep(0, 0)  taken(0, 2) = 3  keep(0, 1)  taken(0, 2) = -12  taken(0, 4) = 4  keep(0, -1)
            taken(0, 4) = -11
            """);
    }

    private static void count() {
        Edges.edge(40, "what 0 .. 6", """
            count(-1) = BAD  count(0) = 0  count(6) = 0  count(7) = BAD  count(MIN) = BAD  count(MAX) = BAD
            """);
        Edges.edge(40, "each of them", """
            set(0, 7)  set(1, 3)
            most 5 5
            tape h+b+1
            strike(0, 1)  strike(0, 2)  strike(0, 3)  undo()  body(0)  body(7)  body(0)  body(0)  act(1, 3, 0)
            count(0) = 2  count(1) = 7  count(2) = 3  count(3) = 5  count(4) = 2  count(5) = 4  count(6) = 11
            """);
        Edges.edge(40, "as many as there may be", """
            set(0, 24)  set(1, 6)
            most 5 5 5 5 5 5
            times 120 feed(104)
            times 50 body(0)
            count(0) = 6  count(1) = 24  count(2) = 6  count(3) = 120  count(5) = 50
            """);
        Edges.edge(40, "40 changes", "most 15\n" + Edges.each(1, 41, k -> "strike(0, " + k % 16 + ")  count(4) = " + Math.min(k, 40)));
        Edges.edge(40, "what may be done again does not count", """
            most 5
            strike(0, 1)  strike(0, 2)  undo()  count(4) = 1  undo()  count(4) = 0  redo()  count(4) = 1
            """);
        Edges.edge(40, "bodies that ran", """
            body(0)  act(0, 0, 0)  count(6) = 1  act(0, 1, 0)  count(6) = 2  act(0, 3, 0)  count(6) = 4  act(0, 2, 0)
            count(6) = 1  act(0, 4, 0)  count(6) = 0
            """);
    }
}
