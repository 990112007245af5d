/** The boundaries that promises 1 to 13 name: bells, the table, the law. */
public final class BellsEdgesTest {
    public static void main(String[] args) {
        newObject();
        bell();
        set();
        strike();
        strikes();
        most();
        mix();
        feed();
        lawFaults();
        lawOpen();
        law();
        layNames();
        layWorkedOut();
        lay();
        line();
        sum();
        of();
        Edges.close(1, 13);
    }

    private static void newObject() {
        Edges.edge(1, "no bells", """
            count(0) = 0  of(0, 0) = BAD  strike(0, 0) = BAD  alarm(0) = BAD  tells(3) = STATE  kept() = NOT  hear(0) = FULL
            """);
        Edges.edge(1, "the first bell is 0", "bell(1, 0) = 0");
        Edges.edge(1, "twelve hours", "count(1) = 12  strokes(11) = 0  strokes(12) = BAD  which() = 4095  set(0, 2) = 12");
        Edges.edge(1, "two are heard", "count(2) = 2  set(1, 3) = 2");
        Edges.edge(1, "all strokes are 0", "most 15 15 15 15 15 15\nset(0, 24) = 12\nstrokes(100) = 0\n"
            + Edges.each(0, 5, b -> "bell " + b + " is 000000000000000000000000"));
        Edges.edge(1, "no hours are mixed", "set(0, 24)\n" + Edges.each(0, 22, h -> "of("
            + (101 * h + 1) + ", 20) = 0") + "of(23, 20) = 0  gap(0) = STATE  bell(1, 0)  gap(0) = 0");
        Edges.edge(1, "nothing on the tape", "count(3) = 0  law() = -100  feed(104) = 1");
        Edges.edge(1, "no law", "bell(3, 0)\nlay() = 18\nbell 0 is 012301230123");
        Edges.edge(1, "no changes", "count(4) = 0  undo() = STATE  redo() = STATE");
        Edges.edge(1, "no bodies, no trace", """
            count(5) = 0  count(6) = 0  act(0, 0, 5) = 0  trace(0) = BAD  keep(0, 0) = BAD  body(0) = 0
            """);
        Edges.edge(1, "six shelves hold nothing", Edges.each(0, 5, s -> "put("
            + s + ", 0, 1) = -11  element(" + s + ", 0) = LMIN  taken(" + s + ", 0) = -11  shift(" + s + ", 0, 0, 0, 0) = -11"));
        Edges.edge(1, "no row of a night, nothing told", "begins(0) = 4095  begins(1) = NOT  which() = 4095  night(1) = 1");
        Edges.holds(1, "the constants", AnyTwoBells.BAD == -1 && AnyTwoBells.NOT == -2 && AnyTwoBells.FULL == -3
            && AnyTwoBells.STATE == -5 && AnyTwoBells.VOID == -2000000000);
        Edges.holds(1, "new though another one was used", newBesideAnother());
    }

    private static boolean newBesideAnother() {
        AnyTwoBells one = new AnyTwoBells();
        one.bell(3, 0);
        one.strike(0, 3);
        one.body(7);
        one.row(0, 0, 5);
        one.feed('h');
        one.law();
        one.mix(1, 1);
        AnyTwoBells other = new AnyTwoBells();
        return other.count(0) == 0 && other.count(4) == 0 && other.count(5) == 0 && other.of(1, 20) == 0
            && other.put(0, 0, 1) == -11 && other.bell(3, 0) == 0 && other.of(0, 10) == 0 && other.lay() == 18;
    }

    private static void bell() {
        Edges.edge(2, "MOST 1 .. 15", """
            bell(0, 0) = BAD  bell(1, 0) = 0  bell(15, 0) = 1  bell(16, 0) = BAD  of(0, 0) = 1  of(1, 0) = 15
            """);
        Edges.edge(2, "MOST far off", "bell(-1, 0) = BAD  bell(MIN, 0) = BAD  bell(MAX, 0) = BAD  bell(17, 0) = BAD  count(0) = 0");
        Edges.edge(2, "COST 0 .. 99", """
            bell(1, 0) = 0  bell(1, 99000) = 1  bell(1, 100000) = BAD  of(0, 1) = 0  of(1, 1) = 99  of(1, 2) = 0
            """);
        Edges.edge(2, "LOST 0 .. 100", """
            bell(1, 100) = 0  bell(1, 101) = BAD  bell(1, 999) = BAD  bell(1, 1000) = 1  of(0, 2) = 100  of(0, 1) = 0
            of(1, 2) = 0  of(1, 1) = 1
            """);
        Edges.edge(2, "COST and LOST at their ends", """
            bell(1, 99100) = 0  bell(1, 99101) = BAD  bell(1, 98101) = BAD  bell(1, 100100) = BAD  of(0, 1) = 99
            of(0, 2) = 100
            """);
        Edges.edge(2, "cl below 0", """
            bell(1, -1) = BAD  bell(1, -1000) = BAD  bell(1, -999) = BAD  bell(1, MIN) = BAD  bell(1, -99100) = BAD
            """);
        Edges.edge(2, "cl far off", "bell(1, MAX) = BAD  bell(1, 1000000) = BAD  bell(1, 99999) = BAD");
        Edges.edge(2, "as they come", """
            bell(1, 0) = 0  bell(0, 0) = BAD  bell(2, 0) = 1  bell(1, 101) = BAD  bell(3, 0) = 2  of(1, 0) = 2  of(2, 0) = 3
            """);
        Edges.edge(2, "six bells, FULL", "bell(1, 1001) = 0  bell(2, 2002) = 1  bell(3, 3003) = 2  bell(4, 4004) = 3  "
            + "bell(5, 5005) = 4  bell(6, 6006) = 5  bell(7, 7007) = FULL\n"
            + "count(0) = 6  of(5, 0) = 6  of(5, 1) = 6  of(5, 2) = 6  of(0, 0) = 1  of(6, 0) = BAD");
        Edges.edge(2, "BAD ahead of FULL", """
            most 1 1 1 1 1 1
            bell(0, 0) = BAD  bell(16, 0) = BAD  bell(1, 101) = BAD  bell(1, 100000) = BAD  bell(1, -1) = BAD
            bell(1, 0) = FULL
            """);
        Edges.edge(2, "the last bell strikes", """
            most 1 1 1 1 1 9
            strike(115, 9) = 0  of(115, 10) = 9  strike(115, 10) = BAD  strokes(11) = 9
            """);
        Edges.edge(2, "a bell that comes late strikes 0", """
            most 9
            set(0, 24)  strike(230, 9)  set(0, 12)  set(0, 24)
            bell(9, 0) = 1
            bell 1 is 000000000000000000000000
            """);
        Edges.edge(2, "a bell is no change", """
            most 9
            strike(0, 4) = 0  strike(0, 5) = 4  undo() = 1  bell(9, 0) = 1  count(4) = 1  redo() = 0  of(0, 10) = 5
            """);
    }

    private static void set() {
        Edges.edge(3, "HOURS 2 .. 24", "set(0, 1) = BAD  set(0, 2) = 12  set(0, 24) = 2  set(0, 25) = BAD  count(1) = 24");
        Edges.edge(3, "HOURS far off", """
            set(0, 0) = BAD  set(0, -1) = BAD  set(0, MIN) = BAD  set(0, MAX) = BAD  set(0, 32) = BAD  set(0, 26) = BAD
            count(1) = 12
            """);
        Edges.edge(3, "HEARD 1 .. 6", "set(1, 0) = BAD  set(1, 1) = 2  set(1, 6) = 1  set(1, 7) = BAD  count(2) = 6");
        Edges.edge(3, "HEARD far off", "set(1, -1) = BAD  set(1, MIN) = BAD  set(1, MAX) = BAD  set(1, 24) = BAD  count(2) = 2");
        Edges.edge(3, "what is 0 or 1", """
            set(-1, 3) = BAD  set(2, 3) = BAD  set(MIN, 3) = BAD  set(MAX, 3) = BAD  count(1) = 12  count(2) = 2
            """);
        Edges.edge(3, "more HEARD than bells", "most 1\nset(1, 6) = 2  count(2) = 6  set(1, 2) = 6");
        Edges.edge(3, "hours that fall away keep no strokes", "table 1234 5678\nset(0, 3) = 4  set(0, 4) = 3\nbell 0 is 1230\n"
            + "bell 1 is 5670\nset(0, 2) = 4  set(0, 24) = 2\n"
            + "bell 0 is 120000000000000000000000\nbell 1 is 560000000000000000000000");
        Edges.edge(3, "strokes of all six bells fall away, and no others", "hours 4\nmost 9 9 9 9 9 9\nlaw h+b+1\nlay()  "
            + "set(0, 2) = 4  set(0, 4) = 2\n"
            + Edges.each(0, 5, b -> "bell " + b + " is " + (b + 1) + (b + 2) + "00"));
        Edges.edge(3, "the last of 24 hours falls away", """
            table 111111111111111111111111
            set(0, 23) = 24  strokes(100) = 46  set(0, 24) = 23  of(230, 10) = 0  of(220, 10) = 1
            """);
        Edges.edge(3, "hours that come strike 0", "table 11\nset(0, 4) = 2\nbell 0 is 1100");
        Edges.edge(3, "hours that fall away are not mixed any more", "hours 6\n"
            + "mix(102, 1) mix(203, 1) mix(405, 1) mix(4, 1) mix(503, 1)\nset(0, 4) = 6  set(0, 6) = 4\n"
            + "of(102, 20) = 1  of(203, 20) = 1  of(405, 20) = 0  of(504, 20) = 0  of(4, 20) = 0  of(400, 20) = 0  "
            + "of(305, 20) = 0  of(503, 20) = 0");
        Edges.edge(3, "just the last hour loses what is mixed", "set(0, 24) = 12\n"
            + "mix(2223, 1) mix(2122, 1) mix(23, 1) mix(22, 1)\nset(0, 23) = 24  set(0, 24) = 23\n"
            + "of(2223, 20) = 0  of(2322, 20) = 0  of(23, 20) = 0  of(2300, 20) = 0  of(2122, 20) = 1  of(22, 20) = 1  of(2200, 20) = 1");
        Edges.edge(3, "HOURS forget changes, undone ones too", """
            most 9
            strike(0, 1)  strike(0, 2)  undo() = 1
            set(0, 13) = 12
            count(4) = 0  undo() = STATE  redo() = STATE  of(0, 10) = 1
            """);
        Edges.edge(3, "HOURS told again forget changes", """
            most 9
            strike(0, 1)  strike(0, 2)  undo() = 1
            set(0, 12) = 12
            undo() = STATE  redo() = STATE  of(0, 10) = 1
            """);
        Edges.edge(3, "HEARD forgets no changes", """
            most 9
            strike(0, 1)  strike(0, 2)  undo() = 1
            set(1, 5) = 2
            redo() = 0  undo() = 1  undo() = 0  count(2) = 5
            """);
        Edges.edge(3, "refused HOURS forget no changes", """
            most 9
            strike(0, 1)  strike(0, 2)  undo() = 1
            set(0, 25) = BAD  set(0, 1) = BAD  set(2, 12) = BAD
            redo() = 0  undo() = 1
            """);
        Edges.edge(3, "what was told and the night stay", """
            table 0012
            heardrow 0
            told 1
            set(0, 3) = 4
            begins(0) = 3  which() = 4
            """);
        Edges.edge(3, "strokes that fell away bound MOST no more", """
            table 129
            most(0, 2) = BAD  set(0, 2) = 3  most(0, 1) = BAD  most(0, 2) = 15
            """);
    }

    private static void strike() {
        Edges.edge(4, "v 0 .. MOST", """
            most 5 15
            strike(0, 5) = 0  strike(0, 6) = BAD  strike(0, 0) = 5  strike(0, -1) = BAD  strike(1, 15) = 0
            strike(1, 16) = BAD  of(1, 10) = 15
            """);
        Edges.edge(4, "v far off", "most 1\nstrike(0, MIN) = BAD  strike(0, MAX) = BAD  strike(0, 2) = BAD  strike(0, 1) = 0");
        Edges.edge(4, "the first and last hour", """
            most 5 5
            strike(0, 1) = 0  strike(111, 2) = 0  strike(120, 1) = BAD  strike(121, 1) = BAD  strokes(0) = 1
            strokes(11) = 2
            """);
        Edges.edge(4, "hour 23, bell 5", """
            most 5 5 5 5 5 5
            strike(235, 1) = BAD  set(0, 24)  strike(235, 1) = 0  of(235, 10) = 1  strike(240, 1) = BAD
            strike(236, 1) = BAD
            """);
        Edges.edge(4, "the bells that there are", """
            most 5 5
            strike(2, 0) = BAD  strike(12, 0) = BAD  strike(9, 0) = BAD  strike(1, 0) = 0
            most 5 5 5 5
            strike(5, 0) = 0  strike(6, 0) = BAD  strike(7, 0) = BAD  strike(8, 0) = BAD  strike(9, 0) = BAD
            """);
        Edges.edge(4, "hb below 0", """
            most 5
            strike(-1, 0) = BAD  strike(-9, 0) = BAD  strike(-10, 0) = BAD  strike(-11, 0) = BAD  strike(MIN, 0) = BAD
            strike(MAX, 0) = BAD  strike(2147483640, 0) = BAD
            """);
        Edges.edge(4, "what they were", """
            most 5
            strike(10, 3) = 0  strike(10, 5) = 3  strike(10, 5) = 5  strike(10, 0) = 5  strike(10, 1) = 0
            """);
        Edges.edge(4, "of that bell at that hour alone", """
            hours 3
            most 5 5 5
            strike(11, 4) = 0
            bell 0 is 000
            bell 1 is 040
            bell 2 is 000
            """);
        Edges.edge(4, "the same number is no change", """
            most 5
            strike(0, 0) = 0  count(4) = 0  strike(0, 2)  strike(0, 3)  undo() = 1  strike(0, 2) = 2  count(4) = 1
            redo() = 0  of(0, 10) = 3
            """);
        Edges.edge(4, "a refused one is no change", """
            most 5
            strike(0, 2)  strike(0, 3)  undo() = 1  strike(0, 6) = BAD  strike(0, -1) = BAD  strike(120, 1) = BAD
            count(4) = 1  redo() = 0
            """);
        Edges.edge(4, "no bells", "strike(0, 0) = BAD  strike(0, 1) = BAD");
    }

    private static void strikes() {
        String four = "hours 4\nmost 9 9\nbytes 0 1 2 3 4 5 6\n";
        Edges.edge(5, "shelves 0 .. 5", four + """
            row(5, 0, 1)
            strikes(-1, 0, 0, 1) = BAD  strikes(0, 0, 0, 1) = 1  strikes(5, 0, 0, 1) = 1  strikes(6, 0, 0, 1) = BAD
            strikes(MIN, 0, 0, 1) = BAD  strikes(MAX, 0, 0, 1) = BAD
            """);
        Edges.edge(5, "the bells that there are", four + """
            strikes(0, 0, -1, 1) = BAD  strikes(0, 0, 2, 1) = BAD  strikes(0, 0, MIN, 1) = BAD  strikes(0, 0, MAX, 1) = BAD
            strikes(0, 0, 1, 1) = 1  strikes(0, 0, 0, 1) = 1
            """);
        Edges.edge(5, "n 1 .. HOURS", four + """
            strikes(0, 0, 0, 0) = BAD  strikes(0, 0, 0, -1) = BAD  strikes(0, 0, 0, MIN) = BAD  strikes(0, 0, 0, 1) = 1
            strikes(0, 0, 0, 4) = 4  strikes(0, 0, 0, 5) = BAD  strikes(0, 0, 0, 24) = BAD  strikes(0, 0, 0, MAX) = BAD
            bell 0 is 1234
            """);
        Edges.edge(5, "n 24 at most", """
            set(0, 24)  bell(9, 0)  row(0, 0, 60)  put(0, 23, 7)  put(0, 24, 8)
            strikes(0, 0, 0, 25) = BAD  strikes(0, 0, 0, 24) = 24
            bell 0 is 000000000000000000000007
            """);
        Edges.edge(5, "no more than n", four + "strikes(0, 1, 0, 2) = 2\nbell 0 is 2300\nbell 1 is 0000");
        Edges.edge(5, "a shelf that holds nothing is missing", four
            + "strike(0, 7)\nstrikes(1, 0, 0, 4) = 0\nbell 0 is 7000\ncount(4) = 1  undo() = 0");
        Edges.edge(5, "a row taken away is missing", four + "keep(0, -1)\nstrikes(0, 0, 0, 4) = 0\nbell 0 is 0000");
        Edges.edge(5, "no ROW of bytes", four + "row(1, 1, 3) row(2, 2, 3) row(3, 3, 3) row(4, 4, 3) body(0) keep(5, 0)\n"
            + Edges.each(1, 5, s -> "strikes(" + s + ", 0, 0, 1) = -12"));
        Edges.edge(5, "no ROW of bytes, and no place", four + """
            row(1, 1, 0)
            strikes(1, 0, 0, 1) = -12  strikes(1, 5, 0, 1) = -12  strikes(1, -1, 0, 1) = -12
            """);
        Edges.edge(5, "BAD ahead of -12", four + """
            row(1, 1, 3)
            strikes(1, 0, 2, 1) = BAD  strikes(1, 0, 0, 0) = BAD  strikes(1, 0, 0, 5) = BAD  strikes(1, 0, -1, 1) = BAD
            """);
        Edges.edge(5, "BAD ahead of a row that is missing", four
            + "strikes(1, 0, 2, 1) = BAD  strikes(1, 0, 0, 0) = BAD  strikes(1, 0, 0, 5) = BAD");
        Edges.edge(5, "an empty row ends at once", four + "row(1, 0, 0)\nstrikes(1, 0, 0, 4) = 0  strikes(1, 1, 0, 4) = 0");
        Edges.edge(5, "the row ends", four + """
            strikes(0, 5, 0, 4) = 1
            bell 0 is 6000
            strikes(0, 3, 0, 4) = 3
            bell 0 is 4560
            strikes(0, 2, 0, 4) = 4
            bell 0 is 3456
            """);
        Edges.edge(5, "a place behind the row", four + """
            strike(0, 7)
            strikes(0, 6, 0, 4) = 0  strikes(0, 7, 0, 4) = 0  strikes(0, 60, 0, 4) = 0  strikes(0, MAX, 0, 4) = 0
            bell 0 is 7000
            count(4) = 1
            """);
        Edges.edge(5, "a place ahead of the row", four + """
            strike(0, 7)
            strikes(0, -1, 0, 4) = 0  strikes(0, -3, 0, 4) = 0  strikes(0, MIN, 0, 4) = 0
            bell 0 is 7000
            count(4) = 1
            """);
        Edges.edge(5, "a row of 60 to its end", "set(0, 24)  bell(9, 0)  row(0, 0, 60)  put(0, 59, 5)\n"
            + "strikes(0, 36, 0, 24) = 24\nbell 0 is 000000000000000000000005\n"
            + "strikes(0, 37, 0, 24) = 23\nof(220, 10) = 5  of(230, 10) = 5  strikes(0, 59, 0, 24) = 1  of(0, 10) = 5");
        Edges.edge(5, "a shelf's row ends where the next one's begins", """
            bell(9, 0)
            row(0, 0, 60)
            bytes 1 5 5
            strikes(0, 58, 0, 4) = 2
            bell 0 is 000
            """);
        Edges.edge(5, "0 .. MOST are strokes", "hours 4\nmost 3\nbytes 0 0 3 0 3\nstrikes(0, 0, 0, 4) = 4\nbell 0 is 0303");
        Edges.edge(5, "above MOST is not so", """
            hours 4
            most 3
            bytes 0 2 3 4 1
            strikes(0, 0, 0, 4) = 2
            bell 0 is 2300
            strikes(0, 2, 0, 1) = 0  strikes(0, 3, 0, 1) = 1
            bell 0 is 1300
            """);
        Edges.edge(5, "below 0 is not so", """
            hours 4
            most 3
            bytes 0 2 -1 1
            strikes(0, 0, 0, 4) = 1
            bell 0 is 2000
            bytes 0 255 1
            strikes(0, 0, 0, 4) = 0
            bytes 0 -128 127
            strikes(0, 0, 0, 4) = 0  strikes(0, 1, 0, 4) = 0
            """);
        Edges.edge(5, "lowest bits come", "hours 4\nmost 3\nbytes 0 257 514 -254\nstrikes(0, 0, 0, 3) = 3\nbell 0 is 1220");
        Edges.edge(5, "MOST is the bell's own", """
            hours 4
            most 3 15
            bytes 0 15 4 3
            strikes(0, 0, 0, 3) = 0  strikes(0, 0, 1, 3) = 3
            bell 0 is 0000
            bell 1 is f430
            """);
        Edges.edge(5, "changes are forgotten, if some came", four
            + "strike(0, 7)  strike(1, 7)  undo() = 1\nstrikes(0, 0, 0, 1) = 1\ncount(4) = 0  undo() = STATE  redo() = STATE  "
            + "of(0, 10) = 1");
        Edges.edge(5, "changes stay, if none came", four + """
            strike(0, 7)  strike(1, 7)  undo() = 1
            put(0, 0, 10)
            strikes(0, 0, 0, 1) = 0  strikes(1, 0, 0, 1) = 0  strikes(0, 6, 0, 1) = 0
            redo() = 0  undo() = 1
            """);
        Edges.edge(5, "changes stay, if it was refused", four
            + "strike(0, 7)  strike(1, 7)  undo() = 1\nrow(1, 1, 4)\nstrikes(1, 0, 0, 1) = -12  strikes(0, 0, 2, 1) = BAD\n"
            + "redo() = 0  undo() = 1");
        Edges.edge(5, "like strokes that came forget changes too", four + "strike(0, 1)\nstrikes(0, 0, 0, 1) = 1\nundo() = STATE");
        Edges.edge(5, "the row stays", four + "strikes(0, 0, 0, 4) = 4\nshelf 0 is 1 2 3 4 5 6");
    }

    private static void most() {
        Edges.edge(6, "MOST 1 .. 15", """
            most 5
            most(0, 0) = BAD  most(0, 1) = 5  most(0, 15) = 1  most(0, 16) = BAD  of(0, 0) = 15
            """);
        Edges.edge(6, "MOST far off", "most 5\nmost(0, -1) = BAD  most(0, MIN) = BAD  most(0, MAX) = BAD  of(0, 0) = 5");
        Edges.edge(6, "the bells that there are", """
            most(0, 5) = BAD
            most 5 6
            most(-1, 5) = BAD  most(2, 5) = BAD  most(MIN, 5) = BAD  most(MAX, 5) = BAD  most(1, 7) = 6  of(0, 0) = 5
            of(1, 0) = 7
            """);
        Edges.edge(6, "not below some of its strokes", """
            most 9 9
            strike(50, 4)  strike(31, 6)
            most(0, 3) = BAD  most(0, 4) = 9  most(1, 5) = BAD  most(1, 6) = 9  of(0, 0) = 4  of(1, 0) = 6
            """);
        Edges.edge(6, "strokes at the first and the last hour", """
            table 4000 0003
            most(0, 3) = BAD  most(0, 4) = 15  most(1, 2) = BAD  most(1, 3) = 15
            """);
        Edges.edge(6, "strokes at hour 23", "set(0, 24)  bell(9, 0)  strike(230, 5)\nmost(0, 4) = BAD  most(0, 5) = 9");
        Edges.edge(6, "strokes are held to the new one", """
            most 5
            most(0, 7) = 5  strike(0, 7) = 0  strike(0, 8) = BAD  strike(0, 2) = 7  most(0, 2) = 7  strike(0, 3) = BAD
            """);
        Edges.edge(6, "it is a change", """
            most 5
            most(0, 7) = 5  count(4) = 1  most(0, 9) = 7  undo() = 1  of(0, 0) = 7  undo() = 0  of(0, 0) = 5  redo() = 1
            of(0, 0) = 7  redo() = 0  of(0, 0) = 9
            """);
        Edges.edge(6, "of another bell than strokes are", """
            most 5 5
            most(1, 7)  strike(1, 7)  undo() = 1  of(1, 10) = 0  of(1, 0) = 7  undo() = 0  of(1, 0) = 5  of(0, 0) = 5
            of(0, 10) = 0
            """);
        Edges.edge(6, "of the last bell", """
            most 5 5 5 5 5 5
            most(5, 7) = 5  strike(115, 7) = 0  undo() = 1  undo() = 0  of(5, 0) = 5  redo() = 1  of(5, 0) = 7
            most(6, 7) = BAD
            """);
        Edges.edge(6, "the same number is no change", """
            most 5
            most(0, 5) = 5  count(4) = 0  most(0, 6)  most(0, 7)  undo() = 1  most(0, 6) = 6  redo() = 0  of(0, 0) = 7
            """);
        Edges.edge(6, "another one is no more done again", """
            most 5
            most(0, 6)  most(0, 7)  undo() = 1  most(0, 8) = 6  redo() = STATE  undo() = 1  undo() = 0  of(0, 0) = 5
            """);
    }

    private static void mix() {
        Edges.edge(7, "one and the same", """
            mix(0, 1) = BAD  mix(101, 1) = BAD  mix(1111, 1) = BAD  mix(0, 0) = BAD  set(0, 24)  mix(2323, 1) = BAD
            """);
        Edges.edge(7, "the first and the last hour", """
            mix(11, 1) = 0  mix(12, 1) = BAD  mix(1100, 1) = 1  mix(1200, 1) = BAD  mix(1112, 1) = BAD  mix(1211, 1) = BAD
            of(11, 20) = 1
            """);
        Edges.edge(7, "hours 22 and 23", """
            set(0, 24)
            mix(2223, 1) = 0  mix(2322, 1) = 1  mix(2324, 1) = BAD  mix(2423, 1) = BAD  mix(23, 1) = 0  mix(2300, 0) = 1
            of(2322, 20) = 1
            """);
        Edges.edge(7, "two hours", "set(0, 2)\nmix(1, 1) = 0  mix(2, 1) = BAD  mix(200, 1) = BAD  mix(100, 1) = 1");
        Edges.edge(7, "gh far off", """
            mix(-1, 1) = BAD  mix(-100, 1) = BAD  mix(-101, 1) = BAD  mix(MIN, 1) = BAD  mix(MAX, 1) = BAD  mix(99, 1) = BAD
            mix(10001, 1) = BAD
            """);
        Edges.edge(7, "is 0 or 1", """
            mix(1, -1) = BAD  mix(1, 2) = BAD  mix(1, MIN) = BAD  mix(1, MAX) = BAD  of(1, 20) = 0  mix(1, 1) = 0
            mix(1, 2) = BAD  of(1, 20) = 1  mix(1, 0) = 1  of(1, 20) = 0
            """);
        Edges.edge(7, "what they were", """
            mix(1, 0) = 0  mix(1, 1) = 0  mix(1, 1) = 1  mix(100, 1) = 1  mix(100, 0) = 1  mix(1, 0) = 0
            """);
        Edges.edge(7, "these two alone", """
            mix(203, 1) = 0  of(302, 20) = 1  of(204, 20) = 0  of(202, 20) = BAD  of(103, 20) = 0  of(201, 20) = 0
            mix(204, 1) = 0  mix(203, 0) = 1  of(204, 20) = 1  of(402, 20) = 1
            """);
        Edges.edge(7, "no change", """
            most 5
            strike(0, 1)  strike(0, 2)  undo() = 1  mix(1, 1) = 0  count(4) = 1  redo() = 0  undo() = 1  of(1, 20) = 1
            """);
    }

    private static void feed() {
        Edges.edge(8, "0 .. 255", """
            feed(-1) = BAD  feed(256) = BAD  feed(0) = 1  feed(255) = 2  feed(MIN) = BAD  feed(MAX) = BAD  count(3) = 2
            """);
        Edges.edge(8, "120 bytes", "times 119 feed(104)\nfeed(104) = 120  feed(104) = FULL  count(3) = 120  feed(104) = FULL");
        Edges.edge(8, "BAD ahead of FULL", "times 120 feed(104)\nfeed(-1) = BAD  feed(256) = BAD  feed(0) = FULL  count(3) = 120");
        Edges.edge(8, "from 1 on again", """
            times 120 feed(104)
            law() = -101  feed(104) = 1  law() = 1  feed(104) = 1  count(3) = 1
            """);
        Edges.edge(8, "as they come", "bell(9, 0)  feed(50)  feed(43)  feed(104)\nlaw() = 1  set(0, 3)  lay() = 9\nbell 0 is 234");
        Edges.edge(8, "all the bytes that no TEXT has", """
            fault 0 \u0000
            fault 0 \u00ff
            fault 1 h\u0080
            fault 1 h\u00e9
            fault 2 h+\u00b2
            fault 0 \u007f
            """);
    }

    private static void lawFaults() {
        Edges.edge(9, "nothing on the tape", "law() = -100  law() = -100");
        Edges.edge(9, "a LINE at least, of an E at least", """
            fault 0 ;
            fault 0 ;h
            fault 0 ?
            fault 0 ?h
            fault 0 )
            fault 0 |
            fault 0 +1
            fault 0 *h
            fault 0 =1
            """);
        Edges.edge(9, "a number has 1 to 4 digits", """
            law 1
            law 1234
            law 0000
            fault 4 12345
            fault 4 00000
            fault 6 h+1234567
            law 9999
            law 12+1234
            fault 5 (1234567
            """);
        Edges.edge(9, "a number and a NAME stand alone", """
            fault 1 1h
            fault 1 h1
            fault 1 hb
            fault 1 hh
            fault 4 1234h
            fault 3 (h)1
            fault 3 (h)h
            fault 1 h(
            fault 1 1(
            fault 3 (1)(1)
            """);
        Edges.edge(9, "NAMES are h, b, m, n, p, q", """
            law h
            law b
            law m
            law n
            law p
            law q
            fault 0 a
            fault 0 c
            fault 0 g
            fault 0 i
            fault 0 l
            fault 0 o
            fault 0 r
            fault 0 H
            fault 0 B
            fault 0 Q
            fault 0 x
            fault 0 z
            """);
        Edges.edge(9, "digits are 0 .. 9", "law 0\nlaw 9\nfault 0 /\nfault 0 :\nfault 1 0:\nfault 1 9:");
        Edges.edge(9, "signs between two O", Edges.each(0, 9, k -> "law h" + "|&<=>+-*/%".charAt(k) + "b\nfault 2 h" + "|&<=>+-*/%".charAt(k)));
        Edges.edge(9, "what is no sign between two O", """
            fault 1 h!b
            fault 1 h^b
            fault 1 h,b
            fault 1 h.b
            fault 1 h~b
            fault 1 h$b
            fault 1 h#b
            fault 1 h@b
            fault 1 h[b
            fault 1 h{b
            fault 1 h'b
            fault 1 h\"b
            fault 1 h\\b
            fault 1 h_b
            """);
        Edges.edge(9, "two signs", """
            fault 2 h++b
            fault 2 h||b
            fault 2 h&&b
            fault 2 h<=b
            fault 2 h==b
            fault 2 h>>b
            fault 2 h**b
            law h--b
            law h+-b
            law h-!b
            law h*-b
            law h|!b
            fault 1 h!=b
            """);
        Edges.edge(9, "B has one of < = > at most", """
            law h<b
            law h=b
            law h>b
            fault 3 h<b<n
            fault 3 h=b=n
            fault 3 h>b>n
            fault 3 h<b=n
            fault 5 1+2=3=4
            fault 3 h>b<n
            law h<b|b<n
            law h<b&b<n
            law (h<b)<n
            law h<(b<n)
            fault 4 (h<b<n)
            law !h<b
            fault 4 !h<b<n
            """);
        Edges.edge(9, "a new B behind | & ; ?", """
            law h<b|b<n&n<h
            law h<b;h<b
            law h<b?h<b
            fault 7 h<b?h<b<n
            fault 7 h<b;h<b<n
            fault 7 h<b|b<n<m
            fault 11 h<b&(b<n)<m<n
            """);
        Edges.edge(9, "E ? E at most", """
            law h?b
            fault 3 h?b?n
            fault 2 h?
            fault 1 h:
            law h?b;h?n
            fault 2 h??b
            fault 7 h?b;h?n?m
            """);
        Edges.edge(9, "no ; and no ? in ( )", "fault 2 (h?b)\nfault 2 (h;b)\nfault 4 h+(b?1)\nfault 4 h+(b;1)");
        Edges.edge(9, "LINES are parted by ;", """
            law h;b
            law h;b;n;m;p;q
            fault 2 h;
            fault 2 h;;b
            fault 2 h?;b
            fault 4 h?b;
            fault 1 h,b
            """);
        Edges.edge(9, "( ) must close", """
            law (h)
            fault 2 (h
            fault 1 (
            fault 1 ()
            fault 4 ((h)
            fault 3 (h))
            fault 1 h)
            fault 3 (h+
            fault 3 (h+)
            law ((h)+(b))
            """);
        Edges.edge(9, "! and - want an O", """
            law !h
            law -h
            law !-!-h
            fault 1 !
            fault 1 -
            fault 2 !-
            fault 1 !)
            fault 1 -*h
            fault 1 !|h
            fault 1 -;h
            fault 1 !?h
            """);
        Edges.edge(9, "no blanks", """
            feed(32)  feed(104)  law() = -100
            feed(104)  feed(32)  law() = -101
            fault 1 h +b
            fault 2 h+ b
            feed(104)  feed(9)  law() = -101
            feed(104)  feed(10)  law() = -101
            feed(104)  feed(13)  law() = -101
            fault 1 ( h)
            feed(104)  feed(0)  law() = -101
            """);
        Edges.edge(9, "the first fault counts", "fault 1 hx;;(\nfault 0 xxxx\nfault 3 h;b)((");
        Edges.edge(9, "a whole tape of 120 bytes", "tape 10\ntimes 59 feed(43) feed(104)\ncount(3) = 120  law() = 1");
        Edges.edge(9, "120 bytes that are all worked out", """
            hours 2
            most 15
            tape !0
            times 59 feed(43) feed(104)
            count(3) = 120  law() = 1  lay() = 16
            bell 0 is 1f
            """);
        Edges.edge(9, "120 bytes that do not count", """
            hours 2
            most 15
            tape h?-9
            times 58 feed(43) feed(104)
            count(3) = 120  law() = 1  lay() = 15
            bell 0 is 0f
            """);
        Edges.edge(9, "120 bytes that end too early", "times 60 feed(104) feed(43)\ncount(3) = 120  law() = -220");
        Edges.edge(9, "a fault in the last of 120 bytes", "feed(104)\ntimes 59 feed(43) feed(104)\nfeed(120) = 120  law() = -219");
        Edges.edge(9, "60 LINES", "feed(104)\ntimes 59 feed(59) feed(104)\ncount(3) = 119  law() = 1");
        Edges.edge(9, "30 LINES with two E, the last one counts", "bell(9, 0)\n"
            + "tape 0?1;\n".repeat(29) + "tape 7?8\ncount(3) = 119  law() = 1  lay() = 96");
    }

    private static void lawOpen() {
        Edges.edge(9, "6 ( are open at once", "law ((((((h))))))\nfault 6 (((((((h)))))))\nfault 6 (((((((");
        Edges.edge(9, "6 ! are open at once", "law !!!!!!h\nfault 6 !!!!!!!h");
        Edges.edge(9, "6 - are open at once", "law ------1\nfault 6 -------1");
        Edges.edge(9, "( ! - are counted together", """
            law (!-(!-h))
            fault 6 (!-(!-(h)))
            fault 6 (!-(!--h))
            fault 6 (!-(!-!h))
            law -(-(-(1)))
            fault 6 -(-(-(-1)))
            fault 6 !!!!!!(1)
            law !!!!!(1)
            fault 6 !!!!!(-1)
            """);
        Edges.edge(9, "they close behind their O", """
            law !!!!!!h+!!!!!!b
            law ((((((h))))))+((((((b))))))
            law (((((-h+-b)))))
            law (!(!(!h+!b)+!n)+!m)
            law ------1-------1
            fault 14 ------1--------1
            """);
        Edges.edge(9, "( stay open within", """
            fault 8 ((((((h+-b
            fault 8 ((((((h-(b
            fault 8 ((((((h|!b
            law ((((((h-b))))))
            fault 9 (((((!h+!-b
            law (((((!h+!b)))))
            """);
        Edges.edge(9, "a sign between is not open", "law ((((((h-b-n-m-p-q-1))))))\nlaw 1-2-3-4-5-6-7-8-9");
        Edges.edge(9, "none are open behind ; and ?", """
            law !!!!!!h;!!!!!!h
            law !!!!!!h?!!!!!!h
            fault 14 !!!!!!h?!!!!!!!h
            fault 14 !!!!!!h;-------h
            """);
        Edges.edge(9, "a fault outside ahead of one too many", "fault 5 (((((x((((");
    }

    private static void law() {
        Edges.edge(9, "the tape is empty then", "law h+b\ncount(3) = 0\nfault 1 hb\ncount(3) = 0  law() = -100  count(3) = 0");
        Edges.edge(9, "a fault leaves the law as it was", """
            hours 3
            most 9
            law h+4
            fault 2 7;
            lay() = 15
            fault 0 x
            law() = -100  lay() = 15
            bell 0 is 456
            """);
        Edges.edge(9, "a fault ahead of any law", "hours 3\nmost 1\nfault 4 1+1+\nlay() = 1\nbell 0 is 010");
        Edges.edge(9, "one law behind the other", """
            hours 3
            most 9
            law 3
            lay() = 9
            law h
            lay() = 3
            law 2
            lay() = 6
            law 0?5
            lay() = 0
            """);
        Edges.edge(9, "the law changes no strokes by itself", """
            hours 3
            most 9
            strike(0, 5)  strike(0, 6)  undo() = 1
            law 3
            bell 0 is 500
            count(4) = 1  redo() = 0
            """);
        Edges.edge(9, "the tape alone is no law", "hours 3\nmost 1\ntape 1\nlay() = 1\ncount(3) = 1  law() = 1  lay() = 3");
    }

    private static void layNames() {
        String two = "hours 4\nmost 9 7\n";
        Edges.edge(10, "h is the hour", two + "law h\nlay() = 12\nbell 0 is 0123\nbell 1 is 0123");
        Edges.edge(10, "h up to 23", "set(0, 24)\nmost 15\nlaw h-8\nlay() = 120\nbell 0 is 000000000123456789abcdef");
        Edges.edge(10, "b is the bell", "hours 2\nmost 9 9 9 9 9 9\nlaw b+1\nlay() = 42\nbell 0 is 11\nbell 1 is 22\nbell 5 is 66");
        Edges.edge(10, "m is MOST of the bell", two + "law m-1\nlay() = 56\nmost(0, 8) = 9  lay() = 52\nbell 0 is 7777\nbell 1 is 6666");
        Edges.edge(10, "n is how many hours", two + "law n\nlay() = 32\nset(0, 5) = 4  lay() = 50\nset(0, 2) = 5  lay() = 8");
        Edges.edge(10, "p is 0 for bell 0", two + "strike(0, 5)  strike(1, 6)\nlaw p+1\nlay() = 12\nbell 0 is 1111\nbell 1 is 2222");
        Edges.edge(10, "p is what the bell ahead strikes at it", two + "law b=0?h*2;p+1\nlay() = 28\nbell 0 is 0246\nbell 1 is 1357");
        Edges.edge(10, "p is held", "hours 3\nmost 2 15\nlaw b?p;h*5\nlay() = 8\nbell 0 is 022\nbell 1 is 022");
        Edges.edge(10, "q is 0 at hour 0", two + """
            strike(0, 5)  strike(30, 5)  strike(31, 6)
            law q+1
            lay() = 20
            bell 0 is 1234
            bell 1 is 1234
            """);
        Edges.edge(10, "q is held", "hours 4\nmost 3\nlaw q*2+1\nlay() = 10\nbell 0 is 1333");
        Edges.edge(10, "q is the bell's own", two + "law q+b+1\nlay() = 29\nbell 0 is 1234\nbell 1 is 2467");
        Edges.edge(10, "hour by hour, bell by bell", """
            hours 3
            most 15 15 15
            law p+q+1
            lay() = 49
            bell 0 is 123
            bell 1 is 259
            bell 2 is 39f
            """);
    }

    /** A law for a lone bell of MOST 15 at two hours, and what it strikes at both. */
    private static String gives(String law, int first, int second) {
        return "law " + law + "\nlay() = " + (first + second) + "  of(0, 10) = " + first + "  of(10, 10) = " + second + "\n";
    }

    private static String both(String law, int strokes) {
        return gives(law, strokes, strokes);
    }

    private static void layWorkedOut() {
        String one = "hours 2\nmost 15\n";
        Edges.edge(10, "* / % ahead of + -", one + both("2+3*4", 14)
            + both("2*3+4", 10) + both("9-8/2", 5) + both("9/3-1", 2) + both("1+7%4", 4) + both("9%5+1", 5) + both("(2+1)*4", 12));
        Edges.edge(10, "+ - ahead of < = >", one + both("1+1<3", 1)
            + both("3<1+1", 0) + both("2=1+1", 1) + both("1+1=2", 1) + both("3>1+1", 1) + both("1+(1=1)", 2));
        Edges.edge(10, "< = > ahead of &", one + both("2&1<3", 1)
            + both("3>1&0", 0) + both("1<2&2<3", 1) + both("1=2&1", 0) + both("2&(1>3)", 0));
        Edges.edge(10, "& ahead of |", one + both("1|0&0", 1) + both("(1|0)&0", 0) + both("0&0|1", 1) + both("0&(0|1)", 0));
        Edges.edge(10, "from the left on", one + both("9-3-2", 4)
            + both("9-(3-2)", 8) + both("8/2/2", 2) + both("8/2*2", 8) + both("9%4*3", 3)
            + both("9-3+2", 8) + both("12/5%2", 0) + both("7*3/2", 10) + both("14%5%3", 1));
        Edges.edge(10, "! and - of an O", one + both("!0", 1) + both("!1", 0) + both("!7", 0) + both("!!7", 1) + both("!-1", 0)
            + both("-!0+2", 1) + both("--5", 5) + both("3--5", 8) + both("-3+5", 2)
            + both("-2*3+9", 3) + both("!0*5", 5) + both("!(1-1)*3", 3) + both("-(2-5)", 3));
        Edges.edge(10, "/ toward 0", one + both("7/2", 3) + both("-7/2+9", 6)
            + both("7/-2+9", 6) + both("-7/-2", 3) + both("1/2", 0) + both("-1/2+5", 5));
        Edges.edge(10, "% toward 0", one + both("7%4", 3) + both("-7%4+9", 6)
            + both("7%-4+9", 12) + both("-7%-4+9", 6) + both("8%4", 0) + both("-8%4+5", 5));
        Edges.edge(10, "by 0 they give 0", one + both("5/0+3", 3)
            + both("5%0+3", 3) + both("0/0+3", 3) + both("5/(1-1)", 0) + both("5%(2-2)", 0)
            + gives("6/h", 0, 6) + gives("6%h+2", 2, 2) + gives("6%(h*4)+2", 2, 4));
        String least = "8192*8192*32";
        Edges.edge(10, "the least int by -1", one + both(least + "/-1<0", 1) + both(least + "%-1+4", 4) + both(least + "/-1=" + least, 1));
        Edges.edge(10, "* wraps", one + both(least + "<0", 1)
            + both("8192*8192*31>0", 1) + both("8192*8192*64+5", 5) + both("9999*9999*9999<0", 1));
        Edges.edge(10, "+ and - wrap", one + both(least + "-1>0", 1)
            + both("(" + least + "-1)+1<0", 1) + both("-(" + least + ")<0", 1)
            + both("-(" + least + "-1)<0", 1) + both("-(" + least + "-1)-2>0", 1));
        Edges.edge(10, "< = > at like ones", one + both("3<3", 0)
            + both("3=3", 1) + both("3>3", 0) + both("2<3", 1) + both("2=3", 0)
            + both("2>3", 0) + both("4<3", 0) + both("4=3", 0) + both("4>3", 1) + both("-4<-3", 1) + both("-3>-4", 1));
        Edges.edge(10, "< > over the whole of ints", one + both(least
            + "<1", 1) + both("1>" + least, 1) + both(least + ">1", 0) + both(least + "<" + least + "-1", 1));
        Edges.edge(10, "| & give 1, 0", one + both("4|0", 1) + both("0|4", 1)
            + both("4|2", 1) + both("0|0", 0) + both("4&2", 1) + both("4&0", 0)
            + both("0&4", 0) + both("0&0", 0) + both("-1&-2", 1) + both("-1&0", 0)
            + both("0&-1", 0) + both("-1|0", 1) + both("0|-1", 1) + both("(2|2)+(2&2)", 2));
        Edges.edge(10, "held within 0 .. MOST", one + both("15", 15)
            + both("16", 15) + both("9999", 15) + both("0", 0) + both("-1", 0)
            + both("-9999", 0) + both(least, 0) + both(least + "-1", 15));
        Edges.edge(10, "held within each bell's MOST", """
            hours 2
            most 1 14
            law 14
            lay() = 30
            law 15
            lay() = 30
            law 13
            lay() = 28
            law 1
            lay() = 4
            law 2
            lay() = 6
            """);
        Edges.edge(10, "the first LINE without a first E counts", one + both("7;8", 7) + both("0;8", 0) + both("0?9;8;7", 8));
        Edges.edge(10, "a LINE whose first E is not 0 counts", one
            + both("1?3;4", 3) + both("0?3;4", 4) + both("-1?3;4", 3) + both("9999?3;4", 3)
            + both("1?0;4", 0) + gives("h?3;4", 4, 3) + gives("h=0?5;h=1?6;7", 5, 6) + both("0?3;1?4;1?5", 4));
        Edges.edge(10, "none counts: 0", one + both("0?3", 0) + both("0?3;0?4", 0) + gives("h?3", 0, 3) + gives("!h?3", 3, 0));
        Edges.edge(10, "numbers of 4 digits", one + both("9999-9990", 9) + both("0012", 12) + both("1000-0990", 10) + both("007", 7));
    }

    private static void lay() {
        Edges.edge(10, "no bells", "lay() = 0\nlaw 5\nlay() = 0");
        Edges.edge(10, "without a text", "most 1 3\nlay() = 24\nbell 0 is 010101010101\nbell 1 is 123012301230");
        Edges.edge(10, "without a text, MOST 15", """
            set(0, 24)
            most 15 15 15 15 15 15
            lay() = 1008
            bell 0 is 0123456789abcdef01234567
            bell 5 is 56789abcdef0123456789abc
            """);
        Edges.edge(10, "two hours", "hours 2\nmost 15 1\nlay() = 2\nbell 0 is 01\nbell 1 is 10");
        Edges.edge(10, "hours that are not there stay at 0", """
            hours 2
            most 9
            law 5
            lay() = 10  set(0, 4) = 2
            bell 0 is 5500
            lay() = 20
            bell 0 is 5555
            """);
        Edges.edge(10, "it forgets changes, undone ones too", """
            most 9
            strike(0, 1)  strike(0, 2)  undo() = 1
            lay()  count(4) = 0  undo() = STATE  redo() = STATE
            """);
        Edges.edge(10, "it forgets changes though no stroke is another one", """
            hours 2
            most 9
            law 5
            lay() = 10  strike(0, 4)  strike(0, 5)  lay() = 10  count(4) = 0  undo() = STATE
            """);
        Edges.edge(10, "the law stays", "hours 2\nmost 9\nlaw 5\nlay() = 10  strike(0, 1)  lay() = 10  bell(3, 0)  lay() = 16");
    }

    private static void line() {
        String two = "hours 4\nmost 15 15\n";
        Edges.edge(11, "a 0 .. 99", two + """
            line(0, 16) = 0  line(0, 990016) = 18
            bell 0 is 0369
            line(0, 1000016) = BAD  line(0, 1000000) = BAD
            bell 0 is 0369
            """);
        Edges.edge(11, "c 0 .. 99", two + "line(0, 10016) = 6\nline(0, 19916) = 18\nbell 0 is 3456\nline(0, 9916) = 12\nbell 0 is 3333");
        Edges.edge(11, "g 2 .. 16", two + """
            line(0, 10000) = BAD  line(0, 10001) = BAD  line(0, 10002) = 2
            bell 0 is 0101
            line(0, 10016) = 6
            bell 0 is 0123
            line(0, 10017) = BAD  line(0, 10018) = BAD  line(0, 10099) = BAD  line(0, 1) = BAD  line(0, 0) = BAD
            """);
        Edges.edge(11, "acg far off", two + """
            line(0, -1) = BAD  line(0, -9984) = BAD  line(0, -10016) = BAD  line(0, MIN) = BAD  line(0, MAX) = BAD
            line(0, 2) = 0  line(0, 999916) = 30  line(0, 999999) = BAD
            """);
        Edges.edge(11, "all at their ends", two + "line(0, 999916)\nbell 0 is 369c");
        Edges.edge(11, "the bells that there are", "line(0, 10016) = BAD\n"
            + two + "line(-1, 10016) = BAD  line(2, 10016) = BAD  line(MIN, 10016) = BAD  line(MAX, 10016) = BAD  "
            + "line(1, 10016) = 6\nbell 0 is 0000");
        Edges.edge(11, "MOST at most", """
            hours 6
            most 3 4
            line(0, 10005) = 9
            bell 0 is 012330
            line(1, 10005) = 10
            bell 1 is 012340
            """);
        Edges.edge(11, "what is left, 0 .. g less 1", "hours 8\nmost 15\nline(0, 30107) = 22\nbell 0 is 14036251");
        Edges.edge(11, "at hour 23", "set(0, 24)\nmost 15\nline(0, 990016)\nof(230, 10) = 5  of(220, 10) = 2");
        Edges.edge(11, "of this bell together", two + "strike(1, 9)\nline(0, 10016) = 6\nbell 1 is 9000");
        Edges.edge(11, "it forgets changes, undone ones too", two
            + "strike(0, 1)  strike(1, 2)  undo() = 1\nline(1, 2) = 0\ncount(4) = 0  undo() = STATE  redo() = STATE  of(0, 10) = 1");
        Edges.edge(11, "a refused one forgets none", two + """
            strike(0, 1)  strike(1, 2)  undo() = 1
            line(1, 1) = BAD  line(2, 2) = BAD  line(0, 17) = BAD
            redo() = 0  undo() = 1
            """);
        Edges.edge(11, "hours that are not there stay at 0", "hours 2\nmost 15\nline(0, 516) = 10  set(0, 4)\nbell 0 is 5500");
    }

    private static void sum() {
        String three = "table 1234 5678 0000 0000\n";
        Edges.edge(12, "two others, unlike all", three + """
            sum(2, 0) = BAD  sum(2, 11) = BAD  sum(2, 22) = BAD  sum(2, 20) = BAD  sum(2, 2) = BAD  sum(2, 21) = BAD
            sum(2, 12) = BAD  sum(0, 0) = BAD  sum(0, 1) = BAD  sum(0, 10) = BAD
            sum(2, 1) = 36
            bell 2 is 68ac
            """);
        Edges.edge(12, "either way round", three + "sum(2, 10) = 36\nbell 2 is 68ac\nsum(3, 12) = 30\nbell 3 is be14");
        Edges.edge(12, "bells that there are", three + """
            sum(0, 14) = BAD  sum(0, 41) = BAD  sum(0, 19) = BAD  sum(0, 91) = BAD  sum(4, 1) = BAD  sum(-1, 1) = BAD
            sum(MIN, 1) = BAD  sum(MAX, 1) = BAD  sum(0, 13) = 26
            """);
        Edges.edge(12, "bells 4 and 5", """
            hours 2
            most 15 15 15 15 15 15
            strike(4, 3)  strike(5, 4)  strike(14, 1)
            sum(0, 45) = 8  sum(1, 54) = 8  sum(2, 46) = BAD  sum(2, 64) = BAD
            bell 0 is 71
            """);
        Edges.edge(12, "de far off", three + """
            sum(2, -1) = BAD  sum(2, -10) = BAD  sum(2, MIN) = BAD  sum(2, MAX) = BAD  sum(2, 101) = BAD  sum(2, 110) = BAD
            """);
        Edges.edge(12, "two bells are too few", """
            table 12 34
            sum(0, 1) = BAD  sum(0, 11) = BAD  sum(1, 0) = BAD  sum(0, 12) = BAD  sum(1, 2) = BAD
            """);
        Edges.edge(12, "no bells", "sum(0, 12) = BAD  sum(0, 0) = BAD");
        Edges.edge(12, "what is left by MOST and 1", """
            table 0123 0000 0000
            line(1, 416) = 16  most(2, 6) = 15  sum(2, 1) = 15
            bell 2 is 4560
            """);
        Edges.edge(12, "the greatest sum", """
            table ff ff 00
            sum(2, 1) = 28
            bell 2 is ee
            most(2, 14)  sum(2, 1) = 0  most(2, 1)  sum(2, 1) = 0
            """);
        Edges.edge(12, "24 hours, six bells", """
            set(0, 24)
            most 15 15 15 15 15 15
            law b<2?h%8;7
            lay()
            sum(5, 1) = 168
            bell 5 is 02468ace02468ace02468ace
            """);
        Edges.edge(12, "this bell alone", three + "sum(2, 1) = 36\nbell 0 is 1234\nbell 1 is 5678\nbell 3 is 0000");
        Edges.edge(12, "it forgets changes, undone ones too", """
            table 00 00 00
            strike(0, 1)  strike(1, 2)  undo() = 1
            sum(2, 1) = 1
            count(4) = 0  undo() = STATE  redo() = STATE  of(0, 10) = 1
            """);
        Edges.edge(12, "a refused one forgets none", """
            table 00 00 00
            strike(0, 1)  strike(1, 2)  undo() = 1
            sum(2, 2) = BAD  sum(3, 1) = BAD
            redo() = 0  undo() = 1
            """);
        Edges.edge(12, "hours that are not there stay at 0", "table 11 11 00\nsum(2, 1) = 4  set(0, 4)\nbell 2 is 2200");
    }

    private static void of() {
        Edges.edge(13, "bells that there are", "of(0, 0) = BAD  of(0, 1) = BAD  of(0, 2) = BAD\nbell(3, 4005)  bell(15, 99100)\n"
            + Edges.each(0, 2, k -> "of(-1, " + k + ") = BAD  of(2, " + k + ") = BAD  of(MIN, " + k + ") = BAD  of(MAX, " + k + ") = BAD")
            + "of(0, 0) = 3  of(0, 1) = 4  of(0, 2) = 5  of(1, 0) = 15  of(1, 1) = 99  of(1, 2) = 100");
        Edges.edge(13, "strokes of hb", """
            table 12 34
            of(0, 10) = 1  of(1, 10) = 3  of(10, 10) = 2  of(11, 10) = 4  of(2, 10) = BAD  of(9, 10) = BAD  of(12, 10) = BAD
            of(20, 10) = BAD  of(21, 10) = BAD
            """);
        Edges.edge(13, "hb far off", """
            most 5
            of(-1, 10) = BAD  of(-10, 10) = BAD  of(MIN, 10) = BAD  of(MAX, 10) = BAD  of(2147483640, 10) = BAD
            of(110, 10) = 0  of(120, 10) = BAD
            """);
        Edges.edge(13, "hour 23, bell 5", """
            most 5 5 5 5 5 5
            set(0, 24)
            of(235, 10) = 0  of(236, 10) = BAD  of(240, 10) = BAD  of(245, 10) = BAD
            """);
        Edges.edge(13, "whether hours are mixed", """
            mix(11, 1)
            of(11, 20) = 1  of(1100, 20) = 1  of(10, 20) = 0  of(12, 20) = BAD  of(1200, 20) = BAD  of(-1, 20) = BAD
            of(-100, 20) = BAD  of(MIN, 20) = BAD  of(MAX, 20) = BAD
            """);
        Edges.edge(13, "one and the same hour is no pair", "of(0, 20) = BAD  of(101, 20) = BAD  of(1111, 20) = BAD");
        Edges.edge(13, "what is one of these", "most 5\n" + "of(0, -1) = BAD  of(0, 3) = BAD  of(1, 9) = BAD  of(1, 11) = BAD  "
            + "of(1, 19) = BAD  of(1, 21) = BAD  of(0, 30) = BAD  of(0, MIN) = BAD  of(0, MAX) = BAD  of(0, 4) = BAD  "
            + "of(0, 5) = BAD");
    }
}
