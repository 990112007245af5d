/** Calls that are refused, or tell what is so already, on an object that holds something of everything: nothing changes. */
public final class RefusalsEdgesTest {
    /** What stands beside the bells: mixed hours, a law, a tape just begun, bodies, a trace, shelves. */
    private static final String BESIDE = """
        mix(3, 1)  mix(102, 1)
        law q+h+b
        tape 2+h
        body(0)  body(7)  body(3)  act(1, 3, 5)
        bytes 0 1 2 3 200
        ints 1 5 6 7
        longs 2 LMIN 6 7
        booleans 3 1 0
        keep(4, 1)
        """;
    /** Five hours, three bells, changes to be undone and done again, a night, a row just begun, and what stands beside. */
    private static final String SOME = """
        set(0, 5)
        bell(9, 2010)  bell(4, 1020)  bell(15, 3005)
        law q+h+b
        lay()  most(0, 10)  strike(0, 3)  strike(11, 2)  strike(42, 9)  strike(21, 1)  undo()  undo()
        heardrow -1 4
        told 1 -1
        """ + BESIDE;
    private static final String NO_BELLS = "set(0, 5)\nnight(1)  night(1)\n" + BESIDE;
    /** Four hours by two bells of one stroke, all of them heard: all rows are some hour's. */
    private static final String ALL_ROWS = """
        set(0, 4)
        bell(1, 2010)  bell(1, 1020)
        strike(11, 1)  strike(20, 1)  strike(30, 1)  strike(31, 1)  strike(1, 1)  strike(0, 1)  undo()  undo()
        heardrow 1
        told 1
        """ + BESIDE;
    /** Four hours by a bell of one stroke, which tells none of hours 0 and 1. */
    private static final String NO_TABLE = """
        set(0, 4)
        bell(1, 2010)
        strike(0, 1)  strike(10, 1)  strike(30, 1)  undo()
        night(1)
        told 1
        """ + BESIDE;
    /** As much as there may be of all. */
    private static final String FULL = """
        set(0, 24)  set(1, 6)
        bell(15, 99100)  bell(15, 0)  bell(15, 1001)  bell(15, 2002)  bell(15, 3003)  bell(15, 4004)
        law q+h+b
        lay()  undo()  mix(3, 1)
        times 6 hear(-1)
        times 11 night(1)
        strike(0, 15)  strike(1, 14)  strike(2, 13)  most(1, 14)  strike(235, 1)  undo()
        told -1 1
        night(1)
        told 15 -1 -1 -1 -1 -1
        times 120 feed(104)
        times 50 body(7)
        act(49, 3, 5)
        row(0, 0, 60)  put(0, 59, 7)
        ints 1 5 6 7
        keep(4, 49)
        """;

    public static void main(String[] args) {
        bellsAndTable();
        telling();
        strokesAndOdds();
        shelves();
        full();
        answered();
        Edges.close(2, 40);
    }

    private static void some(int promise, String calls) {
        Edges.edge(promise, "refused, with something of everything there", SOME + calls);
    }

    private static void bellsAndTable() {
        some(2, "bell(0, 0) = BAD  bell(16, 0) = BAD  bell(5, -1) = BAD  bell(5, 101) = BAD  bell(5, 100000) = BAD");
        some(3, "set(0, 1) = BAD  set(0, 25) = BAD  set(1, 0) = BAD  set(1, 7) = BAD  set(2, 5) = BAD  set(-1, 5) = BAD");
        some(4, """
            strike(0, 11) = BAD  strike(1, 5) = BAD  strike(0, -1) = BAD  strike(3, 0) = BAD  strike(50, 0) = BAD
            strike(-1, 0) = BAD
            """);
        some(5, """
            strikes(6, 0, 0, 1) = BAD  strikes(-1, 0, 0, 1) = BAD  strikes(0, 0, 3, 1) = BAD  strikes(0, 0, -1, 1) = BAD
            strikes(0, 0, 0, 0) = BAD  strikes(0, 0, 0, 6) = BAD  strikes(1, 0, 0, 1) = -12  strikes(2, 0, 0, 1) = -12
            strikes(3, 0, 0, 1) = -12  strikes(4, 0, 0, 1) = -12  strikes(5, 0, 0, 1) = 0  strikes(0, 3, 0, 1) = 0
            strikes(0, 4, 0, 1) = 0  strikes(0, -1, 0, 1) = 0
            """);
        some(6, "most(0, 0) = BAD  most(0, 16) = BAD  most(3, 9) = BAD  most(-1, 9) = BAD  most(0, 1) = BAD  most(2, 5) = BAD");
        some(7, """
            mix(0, 1) = BAD  mix(101, 1) = BAD  mix(5, 1) = BAD  mix(500, 1) = BAD  mix(-1, 1) = BAD  mix(1, 2) = BAD
            mix(1, -1) = BAD
            """);
        some(8, "feed(-1) = BAD  feed(256) = BAD");
        Edges.edge(9, "nothing on the tape, with something of everything there", SOME + "law() = 1\nsame law() = -100");
        Edges.edge(10, "no bells to lay", NO_BELLS + "same lay() = 0");
        some(11, """
            line(0, 1) = BAD  line(0, 17) = BAD  line(0, -1) = BAD  line(0, 1000002) = BAD  line(3, 10016) = BAD
            line(-1, 10016) = BAD
            """);
        some(12, "sum(0, 11) = BAD  sum(0, 1) = BAD  sum(0, 13) = BAD  sum(3, 1) = BAD  sum(-1, 1) = BAD  sum(0, -12) = BAD");
        some(13, """
            of(3, 0) = BAD  of(3, 1) = BAD  of(3, 2) = BAD  of(-1, 0) = BAD  of(3, 10) = BAD  of(50, 10) = BAD  of(-1, 10) = BAD
            of(5, 20) = BAD  of(0, 20) = BAD  of(-1, 20) = BAD  of(0, 3) = BAD  of(0, -1) = BAD
            """);
    }

    private static void telling() {
        some(14, "tells(-1) = BAD  tells(4) = BAD");
        Edges.edge(14, "no bells", NO_BELLS + "tells(0) = STATE  tells(1) = STATE  tells(2) = STATE  tells(3) = STATE");
        Edges.edge(14, "no fault", ALL_ROWS + "tells(3) = 1  tells(0) = NOT  tells(1) = NOT  tells(2) = NOT");
        some(15, "gap(-1) = BAD  gap(2) = BAD  gap(1) = 2");
        Edges.edge(15, "no bells", NO_BELLS + "gap(0) = STATE  gap(1) = STATE");
        Edges.edge(15, "none would do, and all mixed", NO_TABLE + "gap(1) = NOT\n"
            + "mix(1, 1)  mix(2, 1)  mix(103, 1)  mix(203, 1)  gap(0) = NOT  gap(1) = NOT");
        Edges.edge(16, "no bells", NO_BELLS + "bears() = STATE");
        some(17, "hear(-2) = BAD  hear(16) = BAD");
        Edges.edge(17, "no bells", NO_BELLS + "hear(0) = FULL  hear(16) = BAD");
        Edges.edge(18, "nothing was told", SOME + "which()\nsame which() = 31");
        some(19, "alone(0, -2) = BAD  alone(0, 16) = BAD  alone(3, 0) = BAD  alone(-1, 0) = BAD");
    }

    private static void strokesAndOdds() {
        some(20, "strokes(5) = BAD  strokes(-1) = BAD  strokes(99) = BAD  strokes(105) = BAD");
        Edges.edge(20, "no bells", NO_BELLS + "strokes(104) = STATE");
        Edges.edge(21, "all do not", NO_TABLE + "kept() = NOT");
        some(22, "odds(-2, 0) = LMIN  odds(5, 0) = LMIN  odds(0, -1) = LMIN  odds(0, 2) = LMIN");
        some(23, "least(-2) = BAD  least(50) = BAD  least(3) = BAD  least(-1) = STATE  least(0) = STATE");
        Edges.edge(23, "no bells", NO_BELLS + "least(-1) = STATE  least(0) = BAD");
        Edges.edge(23, "there is none", NO_TABLE + "mix(102, 0)  least(-1) = NOT  least(0) = NOT");
        some(24, "greedy(-2) = BAD  greedy(50) = BAD  greedy(3) = BAD");
        Edges.edge(24, "no bells", NO_BELLS + "greedy(-1) = STATE  greedy(0) = BAD");
        Edges.edge(24, "some hour has none", NO_TABLE + "mix(102, 0)  greedy(-1) = NOT  greedy(0) = NOT");
        some(25, "alarm(3) = BAD  alarm(-1) = BAD");
        Edges.edge(25, "there is none", ALL_ROWS + "alarm(0) = NOT  alarm(1) = NOT");
        some(26, "night(-1) = BAD  night(2) = BAD");
        some(27, "begins(-1) = BAD  begins(2) = BAD");
        Edges.edge(28, "no bells", NO_BELLS + "rest() = 0");
        Edges.edge(29, "none may be undone, some done again", SOME + "times 3 undo()\nundo() = STATE");
        Edges.edge(30, "none may be done again, some undone", SOME + "times 2 redo()\nredo() = STATE");
    }

    private static void shelves() {
        some(31, "body(-1) = BAD  body(8) = BAD");
        Edges.edge(32, "no such TABLE, ACT, and no TRACE already", SOME
            + "act(3, 0, 1) = 0\nsame act(3, 0, 1) = 0  act(-1, 0, 1) = 0  act(0, 4, 1) = 0  act(0, -1, 1) = 0");
        some(33, "trace(-1) = BAD  trace(11) = BAD  trace(24) = BAD");
        some(34, "keep(6, 0) = BAD  keep(-1, 0) = BAD  keep(0, 3) = BAD  keep(0, -2) = BAD  keep(4, 3) = BAD");
        some(35, """
            row(6, 0, 1) = BAD  row(-1, 0, 1) = BAD  row(0, 5, 1) = BAD  row(0, -1, 1) = BAD  row(1, 2, 61) = BAD
            row(1, 2, -1) = -14  row(4, 0, -1) = -14  row(4, 0, 61) = BAD
            """);
        some(36, """
            put(6, 0, 9) = BAD  put(-1, 0, 9) = BAD  put(5, 0, 9) = -11  put(4, 0, 9) = -12  put(0, 4, 9) = -13  put(0, -1, 9) = -13
            put(1, 3, 9) = -13  put(2, 3, 9) = -13  put(3, 2, 0) = -13
            """);
        some(37, "element(6, 0) = LMIN  element(5, 0) = LMIN  element(4, 0) = LMIN  element(0, 4) = LMIN  element(0, -1) = LMIN");
        some(38, """
            shift(6, 0, 0, 0, 1) = BAD  shift(0, 0, 6, 0, 1) = BAD  shift(5, 0, 0, 0, 1) = -11  shift(0, 0, 5, 0, 1) = -11
            shift(4, 0, 0, 0, 1) = -12  shift(0, 0, 4, 0, 1) = -12  shift(0, 0, 1, 0, 1) = -12  shift(1, 0, 2, 0, 1) = -12
            shift(0, 0, 0, 1, 4) = -13  shift(0, 1, 0, 0, 4) = -13  shift(0, -1, 0, 0, 1) = -13  shift(0, 0, 0, -1, 1) = -13
            shift(0, 0, 0, 1, -1) = -13
            """);
        some(39, """
            taken(6, 0) = BAD  taken(4, 8) = BAD  taken(4, -1) = BAD  taken(5, 0) = -11  taken(0, 0) = -12
            taken(4, 1) = -12
            """);
        some(40, "count(-1) = BAD  count(7) = BAD");
    }

    private static void full() {
        Edges.edge(2, "FULL of all", FULL + "bell(5, 0) = FULL  bell(16, 0) = BAD");
        Edges.edge(8, "FULL of all", FULL + "feed(104) = FULL  feed(256) = BAD");
        Edges.edge(17, "FULL of all", FULL + "hear(5) = FULL  hear(16) = BAD");
        Edges.edge(26, "FULL of all", FULL + "night(1) = FULL  night(2) = BAD");
        Edges.edge(31, "FULL of all", FULL + "body(0) = FULL  body(8) = BAD");
        Edges.edge(25, "more than three bells, FULL of all", FULL + "alarm(0) = STATE  alarm(6) = BAD");
        Edges.edge(23, "more than three bells, FULL of all", FULL + "least(-1) = STATE  least(0) = STATE");
        Edges.edge(24, "more than three bells, FULL of all", FULL + "greedy(-1) = STATE  greedy(0) = STATE");
    }

    /** What is answered well, and changes nothing all the same. */
    private static void answered() {
        Edges.edge(3, "the same HEARD", SOME + "same set(1, 2) = 2");
        Edges.edge(4, "the same strokes", SOME + "strike(0, 3) = 3  strike(42, 15) = 15");
        Edges.edge(6, "the same MOST", SOME + "most(0, 10) = 10  most(1, 4) = 4");
        Edges.edge(7, "as they were", SOME + "same mix(3, 1) = 1  mix(300, 1) = 1  mix(1, 0) = 0  mix(100, 0) = 0");
        Edges.edge(26, "no rows to be forgotten", SOME + "night(0)\nsame night(0) = 0");
        Edges.edge(34, "nothing instead of nothing, a TABLE instead of the same", SOME + "same keep(5, -1) = 1  keep(4, 1) = 1");
        Edges.edge(35, "a row instead of one of the same kind", SOME + "row(2, 3, 5) = 1\nsame row(2, 3, 5) = 1");
        Edges.edge(36, "the same element", SOME + "same put(0, 1, 2) = 1  put(3, 0, 5) = 1  put(2, 0, LMIN) = 1  put(0, 3, -56) = 1");
        Edges.edge(38, "none, or onto themselves", SOME + """
            same shift(0, 0, 0, 0, 0) = 0  shift(0, 4, 0, 4, 0) = 0  shift(1, 0, 1, 0, 3) = 3
            """);
        Edges.edge(14, "questions", SOME + """
            tells(0)  tells(3)  gap(0)  gap(1) = 2  bears()  alone(0, -1)  strokes(0)  strokes(104)  kept()  odds(0, 0)
            odds(-1, 1)  begins(0)  begins(1)  rest()  of(0, 10)
            """);
        Edges.edge(23, "the least table is not THE TABLE", ALL_ROWS + "least(-1) = 2  least(0)  of(0, 10) = 0  of(20, 10) = 1");
        Edges.edge(24, "found tables are not THE TABLE", SOME + "greedy(-1) greedy(42) alarm(0) alarm(2) count(0) = 3");
        Edges.edge(37, "questions", SOME + "element(0, 0) taken(4, 0) trace(0) count(0) = 3  count(6)");
    }
}
