/** The boundaries that promises 14 to 19 name: what any bells tell, what is known from what was heard. */
public final class TellingEdgesTest {
    public static void main(String[] args) {
        tells();
        firstFault();
        gap();
        bears();
        hear();
        which();
        alone();
        Edges.close(14, 19);
    }

    private static void tells() {
        Edges.edge(14, "what 0 .. 3", """
            most 5
            tells(-1) = BAD  tells(4) = BAD  tells(MIN) = BAD  tells(MAX) = BAD  tells(0) = 1  tells(1) = 0  tells(2) = 1
            tells(3) = 0
            """);
        Edges.edge(14, "no bells", "tells(0) = STATE  tells(1) = STATE  tells(2) = STATE  tells(3) = STATE");
        Edges.edge(14, "BAD ahead of STATE", "tells(-1) = BAD  tells(4) = BAD");
        Edges.edge(14, "no fault", "table 01\ntells(3) = 1  tells(0) = NOT  tells(1) = NOT  tells(2) = NOT");
        Edges.edge(14, "one bell is heard", "table 01 00\nset(1, 1)\ntells(3) = 0  tells(0) = 2\nstrike(11, 1)\ntells(3) = 1");
        Edges.edge(14, "as many heard as bells", "table 01 00\ntells(3) = 1  set(1, 1) = 2  tells(3) = 0");
        Edges.edge(14, "all of them, if there are fewer", """
            table 01 00
            set(1, 3) = 2  tells(3) = 1  set(1, 6) = 3  tells(3) = 1  strike(10, 0) = 1  tells(3) = 0  tells(0) = 3
            """);
        Edges.edge(14, "one bell, two heard", """
            table 012
            tells(3) = 1  strike(20, 1)  tells(3) = 0  tells(0) = 1  tells(1) = 1  tells(2) = 2
            """);
        Edges.edge(14, "six bells, all heard", """
            table 00 00 00 00 00 01
            set(1, 6)
            tells(3) = 1  set(1, 5) = 6  tells(3) = 0  tells(0) = 31
            """);
        Edges.edge(14, "six bells, one heard", """
            table 01 01 01 01 01 01
            set(1, 1)
            tells(3) = 1  strike(15, 0)  tells(3) = 0  tells(0) = 32
            """);
        Edges.edge(14, "hours that are not mixed just", """
            table 0012
            set(1, 1)
            tells(3) = 0  mix(1, 1) = 0  tells(3) = 1  tells(0) = NOT  mix(1, 0) = 1  tells(3) = 0
            """);
        Edges.edge(14, "all hours are mixed", """
            table 000
            mix(1, 1)  mix(2, 1)
            tells(3) = 0  mix(102, 1)  tells(3) = 1  tells(0) = NOT  tells(1) = NOT  tells(2) = NOT
            """);
        Edges.edge(14, "16 strokes for 16 hours", """
            table 0123456789abcdef
            tells(3) = 1  set(0, 17) = 16  tells(3) = 0  tells(1) = 0  tells(2) = 16
            """);
        Edges.edge(14, "24 hours", """
            table 0123456789ab0123456789ab 000000000000111111111111
            tells(3) = 1  strike(231, 0) = 1  tells(3) = 0  tells(0) = 3  tells(1) = 11  tells(2) = 23
            """);
    }

    private static void firstFault() {
        Edges.edge(14, "the least set by numbers", "table 0000 0011 0101 0123\ntells(0) = 3  tells(1) = 0  tells(2) = 1");
        Edges.edge(14, "sets of just as many", "table 01 00 00\nset(1, 2)\ntells(0) = 6  tells(1) = 0  tells(2) = 1");
        Edges.edge(14, "a set of 2 bells ahead of one with bell 3", """
            table 0012 0121 0120 0000
            tells(0) = 9  tells(1) = 0  tells(2) = 1  strike(31, 2) = 1  tells(0) = 9  strike(30, 1) = 2  tells(0) = 3
            tells(1) = 2  tells(2) = 3
            """);
        Edges.edge(14, "bells 1, 2, 3 ahead of 0, 1, 4", """
            table 001 000 010 010 001
            set(1, 3)
            tells(0) = 14  tells(1) = 0  tells(2) = 2
            """);
        Edges.edge(14, "the set is the first, though a lesser hour is mixed in another one", """
            table 0122 0012
            tells(0) = NOT  set(1, 1)  tells(0) = 1  tells(1) = 2  tells(2) = 3
            """);
        Edges.edge(14, "the lesser hour first", """
            table 01210
            tells(1) = 0  tells(2) = 4  strike(40, 3)  tells(1) = 1  tells(2) = 3
            """);
        Edges.edge(14, "then the other one", """
            table 10000
            tells(1) = 1  tells(2) = 2  mix(102, 1)  tells(1) = 1  tells(2) = 3  mix(103, 1)  tells(1) = 1  tells(2) = 4
            mix(104, 1)  tells(1) = 2  tells(2) = 3
            """);
        Edges.edge(14, "the last pair", """
            table 0123456789abcdef01234566 000000000000000077777777
            tells(0) = 3  tells(1) = 22  tells(2) = 23
            """);
        Edges.edge(14, "the first pair", "table 0012\ntells(0) = 1  tells(1) = 0  tells(2) = 1");
        Edges.edge(14, "the least set of six bells' last ones", """
            table 01 01 01 01 00 00
            set(1, 2)
            tells(0) = 48  set(1, 3) = 2  tells(0) = NOT
            """);
    }

    private static void gap() {
        Edges.edge(15, "what 0 or 1", """
            most 5
            gap(-1) = BAD  gap(2) = BAD  gap(MIN) = BAD  gap(MAX) = BAD  gap(0) = 0  gap(1) = NOT
            """);
        Edges.edge(15, "no bells", "gap(0) = STATE  gap(1) = STATE");
        Edges.edge(15, "BAD ahead of STATE", "gap(-1) = BAD  gap(2) = BAD");
        Edges.edge(15, "all pairs are mixed", """
            table 00
            mix(1, 1)
            gap(0) = NOT  gap(1) = NOT
            strike(10, 1)
            gap(0) = NOT  gap(1) = NOT
            """);
        Edges.edge(15, "no bells, though all pairs are mixed", "hours 2\nmix(1, 1)\ngap(0) = STATE  gap(1) = STATE");
        Edges.edge(15, "all pairs but one", """
            table 000 012 011
            mix(1, 1)  mix(2, 1)
            gap(0) = 1  gap(1) = 3  mix(102, 1)  gap(0) = NOT
            """);
        Edges.edge(15, "GAP 0", "table 00 00 00\ngap(0) = 0  gap(1) = NOT");
        Edges.edge(15, "GAP 1: all of them", "table 00 01 00\ngap(0) = 1  gap(1) = 3");
        Edges.edge(15, "as many as bells: one would do", "table 01 01 01\ngap(0) = 3  gap(1) = 1");
        Edges.edge(15, "a lone bell", "table 01\ngap(0) = 1  gap(1) = 1");
        Edges.edge(15, "six bells", "table 01 01 01 01 01 01\ngap(0) = 6  gap(1) = 1  strike(15, 0)  gap(0) = 5  gap(1) = 2");
        Edges.edge(15, "the least over pairs", "table 0011 0101 0110\ngap(0) = 2  strike(32, 1)  gap(0) = 1  gap(1) = 3");
        Edges.edge(15, "the least is the last pair's", """
            table 001 011 011
            gap(0) = 1  mix(102, 1)  gap(0) = 2  mix(1, 1)  gap(0) = 3
            """);
        Edges.edge(15, "whatever HEARD is", "table 01 01\nset(1, 6)\ngap(0) = 2  gap(1) = 1  set(1, 1)  gap(0) = 2  gap(1) = 1");
        Edges.edge(15, "so many heard would do, one less would not", """
            table 0123 0123 0120 0000
            gap(0) = 2  gap(1) = 3  set(1, 3)  tells(3) = 1  set(1, 2)  tells(3) = 0
            """);
        Edges.edge(15, "hours 22 and 23", """
            table 0123456789abcdef01234566 000000000000000077777777
            gap(0) = 0  strike(230, 7)  gap(0) = 1  gap(1) = 2
            """);
    }

    private static void bears() {
        Edges.edge(16, "no bells", "bears() = STATE  set(0, 2)  mix(1, 1)  bears() = STATE");
        Edges.edge(16, "one stroke between", "table 01\nbears() = 0\nstrike(10, 2)\nbears() = 1");
        Edges.edge(16, "one stroke between, the other way", "table 10\nbears() = 0\nstrike(0, 2)\nbears() = 1");
        Edges.edge(16, "14 and 15", "table ef\nbears() = 0\nstrike(0, 13)\nbears() = 1");
        Edges.edge(16, "like ones", "table 11\nbears() = 0  strike(0, 0)  bears() = 0  strike(10, 0)  bears() = 0");
        Edges.edge(16, "0 stays 0", "table 02 00\nbears() = 1  strike(0, 1)  bears() = 0");
        Edges.edge(16, "both as a third row", "table 12 21\nbears() = 0  strike(11, 0)  bears() = 1");
        Edges.edge(16, "a third row with a bell alike", "table 12 33 21\nset(1, 3)\nbears() = 0");
        Edges.edge(16, "one hour loses just one stroke", "table 12 12\nbears() = 1  set(1, 1)  bears() = 0");
        Edges.edge(16, "one hour loses just one stroke, the other way", "table 21 21\nbears() = 1  set(1, 1)  bears() = 0");
        Edges.edge(16, "each loses one, not two", "table 12 12 21\nset(1, 3)\nbears() = 1\nset(1, 2)\nbears() = 0");
        Edges.edge(16, "the other loses one, not two", "table 21 21 12\nset(1, 3)\nbears() = 1\nset(1, 2)\nbears() = 0");
        Edges.edge(16, "one of the heard bells", "table 02 01\nset(1, 2)\nbears() = 1  set(1, 1)  bears() = 0");
        Edges.edge(16, "all of them, if there are fewer", """
            table 02 01
            set(1, 6)
            bears() = 1  strike(10, 1)  bears() = 1  strike(11, 0)  bears() = 0
            """);
        Edges.edge(16, "whichever bells are heard", "table 02 02 01\nset(1, 1)\nbears() = 0  set(1, 2)  bears() = 1");
        Edges.edge(16, "the first bell heard alone", "table 01 02 02\nset(1, 1)\nbears() = 0  set(1, 2)  bears() = 1");
        Edges.edge(16, "hours that are not mixed just", """
            table 013
            bears() = 0  mix(1, 1)  bears() = 1  strike(10, 2)  bears() = 0
            """);
        Edges.edge(16, "all hours are mixed", "table 00\nmix(1, 1)\nbears() = 1");
        Edges.edge(16, "the last pair", "table 02468ace 02468ace\nset(1, 1)\nbears() = 1  strike(70, 13) = 14  bears() = 0");
        Edges.edge(16, "the first and the last hour", "table 02468ac1\nbears() = 0");
        Edges.edge(16, "six bells, all heard", "table 01 10 00 00 00 00\nset(1, 6)\nbears() = 0  strike(15, 1)  bears() = 1");
        Edges.edge(16, "two strokes are not made good", """
            table 02 00
            bears() = 1
            strike(11, 1)
            bears() = 1
            strike(1, 1)  strike(11, 0)
            bears() = 1
            """);
    }

    private static void hear() {
        Edges.edge(17, "strokes -1 .. 15", "most 1 1 1\nhear(-2) = BAD  hear(-1) = 1  hear(15) = 2  hear(16) = BAD  hear(0) = 3");
        Edges.edge(17, "strokes far off", "most 1\nhear(MIN) = BAD  hear(MAX) = BAD  hear(17) = BAD  hear(0) = 1");
        Edges.edge(17, "no bells", "hear(0) = FULL  hear(-1) = FULL  hear(15) = FULL");
        Edges.edge(17, "BAD ahead of FULL", """
            hear(-2) = BAD  hear(16) = BAD
            most 1
            hear(0) = 1  hear(-2) = BAD  hear(16) = BAD  hear(0) = FULL
            """);
        Edges.edge(17, "as many as bells", """
            most 1 1
            hear(0) = 1  hear(0) = 2  hear(0) = FULL  bell(1, 0) = 2  hear(0) = 3  hear(0) = FULL
            """);
        Edges.edge(17, "six bells", """
            most 1 1 1 1 1 1
            hear(0) = 1  hear(0) = 2  hear(0) = 3  hear(0) = 4  hear(0) = 5  hear(0) = 6  hear(0) = FULL
            """);
        Edges.edge(17, "the first again behind which() and night(1)", """
            most 1 1
            hear(0) = 1  which()  hear(0) = 1  hear(0) = 2  night(1) = 1  hear(0) = 1  night(0) = 0  hear(0) = 2
            hear(0) = FULL
            """);
        Edges.edge(17, "more strokes than MOST", "most 1\nhear(15) = 1  which() = 0");
    }

    private static void which() {
        Edges.edge(18, "nothing was told", "table 0120\nwhich() = 15");
        Edges.edge(18, "no bells", "which() = 4095  set(0, 24)  which() = 16777215  set(0, 2)  which() = 3");
        Edges.edge(18, "bells not told are not heard", "table 0120 0110\ntold 0\nwhich() = 9\ntold 1\nwhich() = 2");
        Edges.edge(18, "-1 was not heard", """
            table 0120 0110
            told -1 1
            which() = 6
            told -1 -1
            which() = 15
            told 2 -1
            which() = 4
            """);
        Edges.edge(18, "all bells", "table 0120 0110\ntold 0 0\nwhich() = 9\ntold 1 0\nwhich() = 0\ntold 2 1\nwhich() = 4");
        Edges.edge(18, "what was told is forgotten", "table 0120 0110\ntold 1 1\nwhich() = 2  which() = 15  hear(0) = 1");
        Edges.edge(18, "six bells, the last one too", """
            table 01 01 01 01 01 00
            strike(5, 7)
            told 0 0 0 0 0 7
            which() = 1  which() = 3
            told -1 -1 -1 -1 -1 0
            which() = 2  which() = 3
            told -1 -1 -1 -1 -1
            which() = 3
            """);
        Edges.edge(18, "the last of 24 hours", """
            table 000000000000000000000001
            told 1
            which() = 8388608
            told 0
            which() = 8388607
            """);
        Edges.edge(18, "0 strokes are heard as 0", "table 01\ntold 0\nwhich() = 1\ntold 15\nwhich() = 0");
        Edges.edge(18, "THE TABLE as it is then", "table 0012\ntold 0\nstrike(10, 3)\nwhich() = 1");
        Edges.edge(18, "hours as many as there are then", "table 0012\ntold 0\nset(0, 5) = 4  which() = 19");
        Edges.edge(18, "a bell that came behind was not heard", "table 0012\ntold 0\nbell(5, 0)  strike(1, 5)  which() = 3");
    }

    private static void alone() {
        Edges.edge(19, "strokes -1 .. 15", """
            table 0f70
            alone(0, -2) = BAD  alone(0, -1) = 2  alone(0, 0) = 9  alone(0, 15) = 2  alone(0, 16) = BAD  alone(0, 7) = 4
            alone(0, 8) = 0
            """);
        Edges.edge(19, "strokes far off", "most 5\nalone(0, MIN) = BAD  alone(0, MAX) = BAD  alone(0, 17) = BAD");
        Edges.edge(19, "bells that there are", """
            alone(0, 0) = BAD  alone(0, -1) = BAD
            most 5 5
            alone(-1, 0) = BAD  alone(2, 0) = BAD  alone(2, -1) = BAD  alone(MIN, 0) = BAD  alone(MAX, 0) = BAD
            alone(1, 0) = 4095
            """);
        Edges.edge(19, "more than MOST", "most 5\nalone(0, 6) = 0  alone(0, 15) = 0");
        Edges.edge(19, "all alike", "set(0, 24)\nmost 5\nalone(0, -1) = 24  alone(0, 0) = 16777215  set(0, 2)  alone(0, -1) = 2");
        Edges.edge(19, "all unlike", "table 0123456789abcdef\nalone(0, -1) = 1  set(0, 17)  alone(0, -1) = 2  alone(0, 0) = 65537");
        Edges.edge(19, "most often 15", "table fff00\nalone(0, -1) = 3  alone(0, 15) = 7");
        Edges.edge(19, "most often 0", "table 000ff\nalone(0, -1) = 3");
        Edges.edge(19, "whatever is mixed", "table 0011\nmix(1, 1)\nalone(0, -1) = 2  alone(0, 0) = 3");
        Edges.edge(19, "of that bell", "table 0012 3333\nalone(0, -1) = 2  alone(1, -1) = 4  alone(1, 3) = 15  alone(0, 3) = 0");
        Edges.edge(19, "of the last bell", "table 00 00 00 00 00 01\nalone(5, -1) = 1  alone(5, 1) = 2  alone(6, 1) = BAD");
    }
}
