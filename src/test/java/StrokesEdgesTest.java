/** The boundaries that promises 20 to 30 name: strokes, odds, tables found, nights, rests, changes undone. */
public final class StrokesEdgesTest {
    public static void main(String[] args) {
        strokes();
        kept();
        odds();
        least();
        greedy();
        alarm();
        night();
        begins();
        rest();
        undo();
        redo();
        Edges.close(20, 30);
    }

    private static void strokes() {
        Edges.edge(20, "the hours that there are", """
            table 123
            strokes(0) = 1  strokes(2) = 3  strokes(3) = BAD  strokes(-1) = BAD  set(0, 24)  strokes(3) = 0  strokes(23) = 0
            strokes(24) = BAD  strokes(25) = BAD
            """);
        Edges.edge(20, "what is one of these", """
            most 5
            strokes(99) = BAD  strokes(100) = 0  strokes(101) = 0  strokes(102) = 0  strokes(103) = 0  strokes(104) = 0
            strokes(105) = BAD  strokes(MIN) = BAD  strokes(MAX) = BAD  strokes(50) = BAD  strokes(12) = BAD
            """);
        Edges.edge(20, "no bells", """
            strokes(0) = 0  strokes(11) = 0  strokes(12) = BAD  strokes(100) = 0  strokes(101) = 0  strokes(102) = 0
            strokes(103) = 0  strokes(104) = STATE  strokes(105) = BAD
            """);
        Edges.edge(20, "each hour twice a day", "table 12 34\nstrokes(0) = 4  strokes(1) = 6  strokes(100) = 20");
        Edges.edge(20, "the worst hour, the first of like ones", """
            table 0330 0111 0110
            strokes(101) = 5  strokes(102) = 1  strike(10, 2)  strokes(102) = 2  strokes(101) = 5  strike(0, 5)
            strokes(102) = 0  strike(30, 5)  strokes(102) = 3  strokes(101) = 6
            """);
        Edges.edge(20, "the worst is the last hour", "set(0, 24)\nmost 5\nstrike(230, 1)  strokes(101) = 1  strokes(102) = 23");
        Edges.edge(20, "all hours alike", "table 333\nstrokes(101) = 3  strokes(102) = 0");
        Edges.edge(20, "COST of a day", """
            set(0, 2)  bell(5, 0)  bell(5, 3050)  bell(5, 99100)
            strike(0, 5)  strokes(103) = 0  strike(11, 2)  strokes(103) = 12  strike(2, 1)  strokes(103) = 210
            """);
        Edges.edge(20, "the greatest COST", """
            set(0, 24)
            bell(15, 99000)
            law 15
            lay() = 360  strokes(103) = 71280  strokes(104) = 0
            """);
        Edges.edge(20, "DEAR, the first of like ones", """
            set(0, 2)  bell(9, 2000)  bell(9, 3000)  bell(9, 1000)
            strokes(104) = 0  strike(0, 3)  strike(1, 2)  strokes(104) = 0  strike(12, 6)  strokes(104) = 0  strike(12, 7)
            strokes(104) = 2  strike(11, 1)  strokes(104) = 1
            """);
        Edges.edge(20, "DEAR without any COST", "most 5 5\nstrike(1, 5)  strokes(104) = 0");
        Edges.edge(20, "DEAR is the last bell", """
            hours 2
            most 1 1 1 1 1
            bell(1, 1000)  strike(5, 1)  strokes(104) = 5  strokes(103) = 2
            """);
    }

    private static void kept() {
        Edges.edge(21, "no bells", "kept() = NOT  set(0, 2)  kept() = NOT  mix(1, 1)  kept() = 0");
        Edges.edge(21, "all hours are mixed: no bell is needed", "table 01 01\nkept() = 1  mix(1, 1)  kept() = 0");
        Edges.edge(21, "all bells do not", "table 0012 0011\nkept() = NOT  strike(11, 1)  kept() = 3");
        Edges.edge(21, "one bell", "table 0000 0000 0123\nkept() = 4");
        Edges.edge(21, "the fewest ahead of the least number", "table 0011 0101 0123\nkept() = 4");
        Edges.edge(21, "of like ones the least", "table 0123 0123\nkept() = 1  strike(0, 1)  kept() = 2");
        Edges.edge(21, "of sets of two the least", "table 0011 0101 0110\nkept() = 3  strike(20, 0)  kept() = 6");
        Edges.edge(21, "bells 0 and 3 behind 1 and 2", """
            table 0011 0011 0101 0101
            kept() = 5  strike(20, 0)  strike(30, 0)  kept() = 6
            """);
        Edges.edge(21, "all six bells", """
            table 1000000 0100000 0010000 0001000 0000100 0000010
            kept() = 63  mix(6, 1)  kept() = 62
            """);
        Edges.edge(21, "whatever HEARD is", "table 0011 0101\nset(1, 1)\nkept() = 3");
        Edges.edge(21, "hours that are not mixed just", "table 0012 0101\nkept() = 3  mix(1, 1)  kept() = 1");
        Edges.edge(21, "hours 22 and 23", """
            table 0123456789abcdef01234566 000000000000000077777777
            kept() = NOT  strike(230, 7)  kept() = 3
            """);
    }

    private static void odds() {
        Edges.edge(22, "hours -1 and those that there are", """
            table 012
            odds(-2, 0) = LMIN  odds(-1, 0) = 1  odds(0, 0) = 1  odds(2, 0) = 1  odds(3, 0) = LMIN  odds(MIN, 0) = LMIN
            odds(MAX, 0) = LMIN  odds(-2, 1) = LMIN  odds(3, 1) = LMIN
            """);
        Edges.edge(22, "part 0 or 1", """
            table 01
            odds(0, -1) = LMIN  odds(0, 0) = 1  odds(0, 1) = 1  odds(0, 2) = LMIN  odds(-1, 2) = LMIN  odds(-1, -1) = LMIN
            odds(0, MIN) = LMIN  odds(0, MAX) = LMIN
            """);
        Edges.edge(22, "hour 23", """
            set(0, 24)
            odds(23, 0) = 0  odds(23, 1) = 1  odds(24, 0) = LMIN  set(0, 23)  odds(23, 0) = LMIN
            """);
        Edges.edge(22, "no bells", "odds(0, 0) = 0  odds(0, 1) = 1  odds(-1, 0) = 0  odds(-1, 1) = 1");
        Edges.edge(22, "no bells, some hours mixed with all", """
            set(0, 3)  mix(1, 1)  mix(2, 1)
            odds(0, 0) = 1  odds(0, 1) = 1  odds(1, 0) = 0  odds(1, 1) = 1  odds(-1, 0) = 1  odds(-1, 1) = 3
            """);
        Edges.edge(22, "never lost", "table 01\nodds(0, 0) = 1  odds(0, 1) = 1  odds(-1, 0) = 1  odds(-1, 1) = 1");
        Edges.edge(22, "always lost", """
            set(0, 2)  bell(1, 100)  strike(0, 1)
            odds(0, 0) = 0  odds(0, 1) = 1  odds(-1, 0) = 0  odds(-1, 1) = 1
            """);
        Edges.edge(22, "one hundredth", """
            set(0, 2)  bell(1, 99)  strike(0, 1)
            odds(0, 0) = 1  odds(0, 1) = 100  odds(-1, 0) = 1  odds(-1, 1) = 100
            """);
        Edges.edge(22, "99 hundredths", "set(0, 2)  bell(1, 1)  strike(0, 1)\nodds(0, 0) = 99  odds(0, 1) = 100");
        Edges.edge(22, "lowest terms", "set(0, 2)  bell(1, 50)  strike(0, 1)\nodds(0, 0) = 1  odds(0, 1) = 2  odds(-1, 1) = 2");
        Edges.edge(22, "an hour like another one", """
            table 001
            odds(0, 0) = 0  odds(0, 1) = 1  odds(2, 0) = 1  odds(2, 1) = 1  odds(-1, 0) = 1  odds(-1, 1) = 3
            """);
        Edges.edge(22, "those that it is mixed with do not count", """
            table 001
            mix(1, 1)
            odds(0, 0) = 1  odds(1, 0) = 1  odds(-1, 0) = 1  odds(-1, 1) = 1
            """);
        Edges.edge(22, "both bells are needed", """
            set(0, 3)  bell(1, 10)  bell(1, 20)  strike(10, 1)  strike(21, 1)
            odds(0, 0) = 18  odds(0, 1) = 25  odds(1, 0) = 9  odds(1, 1) = 10  odds(2, 0) = 4  odds(2, 1) = 5
            odds(-1, 0) = 121  odds(-1, 1) = 150
            """);
        Edges.edge(22, "either bell does", """
            set(0, 2)  bell(1, 10)  bell(1, 20)  strike(10, 1)  strike(11, 1)
            odds(0, 0) = 49  odds(0, 1) = 50
            """);
        Edges.edge(22, "whatever HEARD is", """
            set(0, 2)  set(1, 1)  bell(1, 10)  bell(1, 20)  strike(10, 1)  strike(11, 1)
            odds(0, 0) = 49  odds(0, 1) = 50
            """);
        Edges.edge(22, "parts of 100 ^ 6", """
            set(0, 2)
            times 6 bell(1, 1)
            strike(0, 1)  strike(1, 1)  strike(2, 1)  strike(3, 1)  strike(4, 1)  strike(5, 1)
            odds(0, 0) = 999999999999  odds(0, 1) = 1000000000000  odds(1, 0) = 999999999999
            """);
        Edges.edge(22, "MEAN of 24 hours by six bells", """
            set(0, 24)
            bell(15, 1)  bell(15, 3)  bell(15, 7)  bell(15, 9)  bell(15, 11)  bell(15, 13)
            strike(0, 1)
            odds(0, 0) = 99  odds(0, 1) = 100  odds(1, 0) = 0  odds(-1, 0) = 33  odds(-1, 1) = 800
            """);
        Edges.edge(22, "MEAN of odds of 100 ^ 6", """
            set(0, 3)
            bell(15, 1)  bell(15, 3)  bell(15, 7)  bell(15, 9)  bell(15, 11)  bell(15, 13)
            lay()
            odds(0, 0) = 999999972973  odds(-1, 0) = 999999972973
            odds(0, 1) = 1000000000000  odds(-1, 1) = 1000000000000
            """);
        Edges.edge(22, "MEAN by how many hours", """
            table 0000001
            odds(-1, 0) = 1  odds(-1, 1) = 7  set(0, 6)  odds(-1, 0) = 0  odds(-1, 1) = 1
            """);
    }

    private static void least() {
        Edges.edge(23, "hb -1 or a bell at an hour", """
            hours 4
            most 3
            least(-2) = BAD  least(-1) = 6  least(0) = 0  least(30) = 3  least(1) = BAD  least(40) = BAD  least(31) = BAD
            least(-10) = BAD  least(MIN) = BAD  least(MAX) = BAD
            """);
        Edges.edge(23, "no bells", "least(-1) = STATE  least(0) = BAD  least(-2) = BAD");
        Edges.edge(23, "three bells at most", """
            hours 2
            most 1 1 1
            set(1, 1)
            least(-1) = 3  bell(1, 0)  least(-1) = STATE  least(3) = STATE  least(4) = BAD
            """);
        Edges.edge(23, "four hours at most", """
            hours 4
            most 3
            least(-1) = 6  set(0, 5)  least(-1) = STATE  least(40) = STATE  least(50) = BAD
            """);
        Edges.edge(23, "five hours are too many though the tables are few", """
            hours 5
            most 1
            least(-1) = STATE  set(0, 4)  least(-1) = NOT
            """);
        Edges.edge(23, "65536 tables: four hours, 16 rows", "hours 4\nmost 15\nleast(-1) = 6");
        Edges.edge(23, "65536 tables: four hours, two bells", "hours 4\nmost 3 3\nleast(-1) = 4  most(1, 4)  least(-1) = STATE");
        Edges.edge(23, "65536 tables: four hours, three bells", """
            hours 4
            most 3 1 1
            least(-1) = 6  most(2, 2)  least(-1) = STATE
            """);
        Edges.edge(23, "65536 tables: two hours, two bells", "hours 2\nmost 15 15\nleast(-1) = 1  bell(1, 0)  least(-1) = STATE");
        Edges.edge(23, "three hours, 40 and 42 rows", """
            hours 3
            most 9 3
            least(-1) = 2  most(0, 13)  most(1, 2)  least(-1) = STATE
            """);
        Edges.edge(23, "so many tables that ints wrap", """
            hours 4
            most 15 15
            least(-1) = STATE  set(0, 2)  least(-1) = 1  bell(15, 0)  least(-1) = STATE  set(0, 3)  least(-1) = STATE
            set(0, 4)  least(-1) = STATE
            """);
        Edges.edge(23, "BAD ahead of STATE", "least(0) = BAD\nmost 15 15\nleast(2) = BAD  least(120) = BAD  least(0) = STATE");
        Edges.edge(23, "there is none", "hours 3\nmost 1\nleast(-1) = NOT  least(0) = NOT  least(1) = BAD");
        Edges.edge(23, "the last table is the only one", "hours 2\nmost 1\nleast(-1) = 1  least(0) = 0  least(10) = 1");
        Edges.edge(23, "of as few strokes the first by hours", "hours 2\nmost 2\nleast(-1) = 1  least(0) = 0  least(10) = 1");
        Edges.edge(23, "then by bells, least strokes first", """
            hours 2
            most 1 1
            least(-1) = 1  least(0) = 0  least(1) = 0  least(10) = 0  least(11) = 1
            """);
        Edges.edge(23, "by hours ahead of bells", """
            hours 3
            most 2 2
            least(-1) = 2  least(10) = 0  least(11) = 1  least(20) = 1  least(21) = 0
            """);
        Edges.edge(23, "three bells by three hours", """
            hours 3
            most 1 1 1
            set(1, 3)
            least(-1) = 2  least(0) = 0  least(1) = 0  least(2) = 0  least(10) = 0  least(11) = 0  least(12) = 1
            least(20) = 0  least(21) = 1  least(22) = 0
            """);
        Edges.edge(23, "HEARD as told", """
            hours 3
            most 2 2
            set(1, 1)
            least(-1) = 6  least(0) = 0  least(1) = 0  least(10) = 1  least(11) = 1  least(20) = 2  least(21) = 2
            """);
        Edges.edge(23, "the least by strokes is not the first told", """
            hours 3
            most 2 2
            set(1, 1)
            mix(1, 1)
            least(-1) = 2  least(20) = 1  least(21) = 1  least(10) = 0
            """);
        Edges.edge(23, "all of them, if there are fewer", "hours 2\nmost 1 1\nset(1, 6)\nleast(-1) = 1");
        Edges.edge(23, "all hours are mixed", "hours 2\nmost 1\nmix(1, 1)\nset(1, 1)\nleast(-1) = 0  least(0) = 0  least(10) = 0");
        Edges.edge(23, "hours 0 and 3 mixed", """
            hours 4
            most 2
            mix(3, 1)
            least(-1) = 3  least(0) = 0  least(10) = 1  least(20) = 2  least(30) = 0
            """);
        Edges.edge(23, "MOST of each bell", """
            hours 4
            most 1 7
            set(1, 1)
            least(-1) = NOT  mix(2, 1)  mix(103, 1)  least(-1) = 4  least(10) = 1  least(11) = 1  least(20) = 0
            least(30) = 1
            """);
        Edges.edge(23, "THE TABLE stays", """
            table 43
            most(0, 5)
            least(-1) = 1  least(0) = 0  of(0, 10) = 4  of(10, 10) = 3  count(4) = 3
            """);
    }

    private static void greedy() {
        Edges.edge(24, "hb -1 or a bell at an hour", """
            hours 4
            most 3
            greedy(-2) = BAD  greedy(-1) = 6  greedy(0) = 0  greedy(30) = 3  greedy(1) = BAD  greedy(40) = BAD
            greedy(-10) = BAD  greedy(MIN) = BAD  greedy(MAX) = BAD
            """);
        Edges.edge(24, "no bells", "greedy(-1) = STATE  greedy(0) = BAD  greedy(-2) = BAD");
        Edges.edge(24, "three bells at most", """
            hours 2
            most 1 1 1
            set(1, 1)
            greedy(-1) = 3  bell(1, 0)  greedy(-1) = STATE  greedy(3) = STATE  greedy(4) = BAD
            """);
        Edges.edge(24, "BAD ahead of STATE", """
            greedy(0) = BAD
            most 1 1 1 1
            greedy(4) = BAD  greedy(120) = BAD  greedy(0) = STATE
            """);
        Edges.edge(24, "some hour has none", "hours 3\nmost 1\ngreedy(-1) = NOT  greedy(0) = NOT  set(0, 2)  greedy(-1) = 1");
        Edges.edge(24, "the last row is used", """
            hours 16
            most 15
            greedy(-1) = 120  greedy(150) = 15  set(0, 17)  greedy(-1) = NOT
            """);
        Edges.edge(24, "the last row of two bells is used", """
            hours 4
            most 1 1
            greedy(-1) = 4  greedy(10) = 0  greedy(11) = 1  greedy(20) = 1  greedy(21) = 0  greedy(30) = 1  greedy(31) = 1
            set(0, 5)  greedy(-1) = NOT
            """);
        Edges.edge(24, "the last row of three bells is used", """
            hours 8
            most 1 1 1
            set(1, 3)
            greedy(-1) = 12  greedy(70) = 1  greedy(71) = 1  greedy(72) = 1  greedy(60) = 1  greedy(61) = 1  greedy(62) = 0
            set(0, 9)  greedy(-1) = NOT
            """);
        Edges.edge(24, "all sums rising, then by bells", """
            hours 7
            most 2 2 2
            set(1, 3)
            greedy(-1) = 9  greedy(12) = 1  greedy(21) = 1  greedy(30) = 1  greedy(42) = 2  greedy(51) = 1  greedy(52) = 1
            greedy(61) = 2  greedy(60) = 0
            """);
        Edges.edge(24, "MOST of bell 0 is the least", """
            hours 8
            most 1 3
            greedy(-1) = 16  greedy(30) = 0  greedy(31) = 2  greedy(40) = 1  greedy(41) = 1  greedy(50) = 0  greedy(51) = 3
            greedy(60) = 1  greedy(61) = 2  greedy(70) = 1  greedy(71) = 3  set(0, 9)  greedy(-1) = NOT
            """);
        Edges.edge(24, "MOST of bell 1 is the least", """
            hours 8
            most 3 1
            greedy(-1) = 16  greedy(30) = 1  greedy(31) = 1  greedy(40) = 2  greedy(41) = 0  greedy(50) = 2  greedy(51) = 1
            greedy(60) = 3  greedy(61) = 0  greedy(70) = 3  greedy(71) = 1  set(0, 9)  greedy(-1) = NOT
            """);
        Edges.edge(24, "MOST of bell 2 is the most", """
            hours 16
            most 1 1 3
            set(1, 3)
            greedy(-1) = 40  greedy(150) = 1  greedy(151) = 1  greedy(152) = 3  greedy(140) = 1  greedy(141) = 1
            greedy(142) = 2  greedy(130) = 1  greedy(131) = 0  greedy(132) = 3  set(0, 17)  greedy(-1) = NOT
            """);
        Edges.edge(24, "MOST of bell 2 is the least", """
            hours 18
            most 2 2 1
            set(1, 3)
            greedy(-1) = 45  greedy(170) = 2  greedy(171) = 2  greedy(172) = 1  set(0, 19)  greedy(-1) = NOT
            """);
        Edges.edge(24, "TELLS' way", """
            hours 4
            most 3 3
            set(1, 1)
            greedy(-1) = 12  greedy(10) = 1  greedy(11) = 1  greedy(31) = 3
            """);
        Edges.edge(24, "all of them, if there are fewer", "hours 3\nmost 1 1\nset(1, 6)\ngreedy(-1) = 2");
        Edges.edge(24, "24 hours", """
            set(0, 24)
            most 4 4
            greedy(-1) = 92  greedy(230) = 4  greedy(231) = 3  most(0, 3)  greedy(-1) = NOT
            """);
        Edges.edge(24, "not from those that it is mixed with", """
            hours 3
            most 1
            greedy(-1) = NOT  mix(2, 1)  greedy(-1) = 1  greedy(0) = 0  greedy(10) = 1  greedy(20) = 0
            """);
        Edges.edge(24, "all hours are mixed", "hours 2\nmost 1\nmix(1, 1)\ngreedy(-1) = 0  greedy(10) = 0");
        Edges.edge(24, "more strokes than the least table", "hours 4\nmost 1 1 2\ngreedy(-1) = 6");
        Edges.edge(24, "THE TABLE stays", "table 43\ngreedy(-1) = 1  greedy(0) = 0  of(0, 10) = 4  of(10, 10) = 3  count(4) = 2");
    }

    private static void alarm() {
        Edges.edge(25, "bells that there are", """
            most 5 5
            alarm(-1) = BAD  alarm(0) = 0  alarm(1) = 1  alarm(2) = BAD  alarm(MIN) = BAD  alarm(MAX) = BAD
            """);
        Edges.edge(25, "no bells", "alarm(0) = BAD  alarm(-1) = BAD");
        Edges.edge(25, "three bells at most", """
            most 5 5 5
            alarm(0) = 0  alarm(2) = 1
            most 5
            alarm(0) = STATE  alarm(3) = STATE  alarm(4) = BAD
            """);
        Edges.edge(25, "there is none", "table 01\nmost(0, 1)\nalarm(0) = NOT  most(0, 2)  alarm(0) = 2");
        Edges.edge(25, "one alone is none", "table 01\nmost(0, 1)\nset(1, 1)\nalarm(0) = NOT");
        Edges.edge(25, "no strokes at all", "table 123\nalarm(0) = 0");
        Edges.edge(25, "the last row", "table 012\nmost(0, 3)\nalarm(0) = 3  most(0, 2)  alarm(0) = NOT");
        Edges.edge(25, "the last row of two bells", """
            table 001 010
            most(0, 1)  most(1, 1)
            alarm(0) = 1  alarm(1) = 1  set(0, 4)  strike(30, 1)  strike(31, 1)  alarm(0) = NOT  alarm(1) = NOT
            """);
        Edges.edge(25, "the last row of three bells", """
            table 0000111 0011001 0101010
            most(0, 1)  most(1, 1)  most(2, 1)
            set(1, 3)
            alarm(0) = 1  alarm(1) = 1  alarm(2) = 1
            """);
        Edges.edge(25, "by sums rising", "table 00 01\nalarm(0) = 1  alarm(1) = 0  strike(11, 2)  alarm(0) = 0  alarm(1) = 1");
        Edges.edge(25, "then by bells, least first", """
            table 00 00
            alarm(0) = 0  alarm(1) = 1
            set(0, 3)  strike(21, 1)
            alarm(0) = 1  alarm(1) = 0  set(0, 4)  strike(30, 1)
            alarm(0) = 0  alarm(1) = 2
            """);
        Edges.edge(25, "within MOST of bell 0", "table 00101 01021\nmost(0, 1)\nalarm(0) = 0  alarm(1) = 3");
        Edges.edge(25, "within MOST of bell 1", "table 00121 01001\nmost(1, 1)\nalarm(0) = 2  alarm(1) = 1");
        Edges.edge(25, "within MOST of bell 2", """
            table 001011 010101 000000
            most(2, 1)  set(0, 7)  strike(62, 1)
            set(1, 3)
            alarm(0) = 0  alarm(1) = 1  alarm(2) = 1
            """);
        Edges.edge(25, "no HEARD bells take it for an hour", """
            table 00 00
            set(1, 1)
            alarm(0) = 1  alarm(1) = 1  strike(11, 1)  alarm(0) = 1  alarm(1) = 2
            """);
        Edges.edge(25, "two of three heard", """
            table 00 00 00
            alarm(0) = 0  alarm(1) = 1  alarm(2) = 1  set(1, 1)  alarm(0) = 1  alarm(1) = 1  alarm(2) = 1  set(1, 3)
            alarm(0) = 0  alarm(1) = 0  alarm(2) = 1
            """);
        Edges.edge(25, "all of them, if there are fewer", "table 00 00\nset(1, 6)\nalarm(0) = 0  alarm(1) = 1");
        Edges.edge(25, "for a mixed hour neither", "table 01\nmix(1, 1)\nalarm(0) = 2");
        Edges.edge(25, "nor for hour 23", """
            set(0, 24)
            most 3
            strike(0, 1)  strike(10, 2)  alarm(0) = 3  strike(230, 3)  alarm(0) = NOT
            """);
        Edges.edge(25, "nor for hour 0", "table 0123\nmost(0, 4)\nalarm(0) = 4  strike(0, 4)  alarm(0) = 0");
    }

    private static void night() {
        Edges.edge(26, "what 0 or 1", """
            table 01
            night(-1) = BAD  night(2) = BAD  night(MIN) = BAD  night(MAX) = BAD  night(0) = 0  night(1) = 1
            """);
        Edges.edge(26, "twelve rows", """
            table 01
            times 11 night(1)
            night(1) = 12  night(1) = FULL  night(1) = FULL  begins(0) = 3
            """);
        Edges.edge(26, "the twelfth row counts", "table 01\ntimes 11 night(1)\ntold 0\nnight(1) = 12  begins(0) = 2");
        Edges.edge(26, "what is FULL forgets nothing", """
            table 01
            times 12 night(1)
            told 1
            night(1) = FULL  which() = 2  begins(0) = 3
            """);
        Edges.edge(26, "BAD ahead of FULL", """
            table 01
            times 12 night(1)
            night(2) = BAD  night(-1) = BAD  night(1) = FULL  night(0) = 0  night(1) = 1
            """);
        Edges.edge(26, "all rows are forgotten", """
            table 01
            heardrow 0
            heardrow 1
            begins(0) = 1  night(0) = 0  begins(0) = 3  night(0) = 0
            told 1
            night(1) = 1  begins(0) = 2
            """);
        Edges.edge(26, "what is just being told is no row yet", "table 01\ntold 1\nnight(0) = 0  hear(1) = FULL  which() = 2");
        Edges.edge(26, "what was told is forgotten", "table 01\ntold 1\nnight(1) = 1  which() = 3  hear(0) = 1");
        Edges.edge(26, "a row of nothing told", """
            table 01
            night(1) = 1  begins(0) = 3  night(1) = 2
            told 0
            night(1) = 3  begins(0) = 1
            """);
        Edges.edge(26, "no bells", "night(1) = 1  night(1) = 2  begins(0) = 4095  night(0) = 0");
        Edges.edge(26, "six bells", """
            table 01 01 01 01 01 00
            strike(15, 3)
            told -1 -1 -1 -1 -1 3
            night(1) = 1  begins(0) = 2  which() = 3
            told -1 -1 -1 -1 -1 0
            night(1) = 2  begins(0) = 2
            night(1) = 3
            told -1 -1 -1 -1 -1 3
            night(1) = 4  begins(0) = 0
            """);
    }

    private static void begins() {
        Edges.edge(27, "what 0 or 1", """
            table 01
            begins(-1) = BAD  begins(2) = BAD  begins(MIN) = BAD  begins(MAX) = BAD  begins(0) = 3  begins(1) = 1
            """);
        Edges.edge(27, "no rows: with all", "table 0120\nbegins(0) = 15  set(0, 24)  begins(0) = 16777215");
        Edges.edge(27, "hour 0 behind the last", """
            table 0012
            heardrow 2
            heardrow 0
            begins(0) = 8  begins(1) = 0
            heardrow 0
            begins(0) = 8
            heardrow 1
            begins(0) = 8
            heardrow 0
            begins(0) = 0
            """);
        Edges.edge(27, "round more than once", """
            table 01
            heardrow 1
            heardrow 0
            heardrow 1
            heardrow 0
            heardrow 1
            begins(0) = 2
            heardrow 1
            begins(0) = 0  begins(1) = 0
            """);
        Edges.edge(27, "hour by hour on", "table 0123\nheardrow 1\nheardrow 2\nbegins(0) = 2\nheardrow 2\nbegins(0) = 0");
        Edges.edge(27, "none: 0", "table 00\nheardrow 5\nbegins(0) = 0  begins(1) = 0");
        Edges.edge(27, "one: 0", "table 01\nheardrow 1\nbegins(0) = 2  begins(1) = 0");
        Edges.edge(27, "two that never differ", """
            table 0101
            begins(1) = NOT
            heardrow 0
            begins(0) = 5  begins(1) = NOT  mix(2, 1)  begins(1) = 0
            """);
        Edges.edge(27, "all hours alike", """
            table 000
            begins(1) = NOT  mix(1, 1)  mix(2, 1)  begins(1) = NOT  mix(102, 1)  begins(1) = 0
            """);
        Edges.edge(27, "no bells", "begins(0) = 4095  begins(1) = NOT  set(0, 2)  begins(1) = NOT  mix(1, 1)  begins(1) = 0");
        Edges.edge(27, "one row more", "table 0123\nbegins(1) = 1");
        Edges.edge(27, "two rows more", """
            table 0012
            begins(1) = 2
            heardrow -1
            begins(1) = 2
            heardrow 0
            begins(0) = 9  begins(1) = 1
            """);
        Edges.edge(27, "23 rows more", "table 000000000000000000000001\nbegins(1) = 23  mix(1, 1)  begins(1) = 22");
        Edges.edge(27, "as THE TABLE goes on behind the rows heard", """
            table 0001
            begins(1) = 3
            heardrow 0
            begins(0) = 7  begins(1) = 2
            heardrow 0
            begins(0) = 3  begins(1) = 1
            heardrow 0
            begins(0) = 1  begins(1) = 0
            """);
        Edges.edge(27, "behind the rows heard, round to hour 0", """
            table 1000
            heardrow -1
            heardrow 0
            heardrow 0
            begins(0) = 3  begins(1) = 1
            """);
        Edges.edge(27, "not mixed just as hours that it began with", """
            table 0012
            mix(1, 1)
            begins(1) = 1  mix(1, 0)  begins(1) = 2  mix(102, 1)  begins(1) = 2
            """);
        Edges.edge(27, "they differ in some bell", "table 0000 0012\nbegins(1) = 2  strike(10, 1)  begins(1) = 1");
        Edges.edge(27, "bells not heard", """
            table 0011 0101
            heardrow -1 1
            begins(0) = 10  begins(1) = 1
            heardrow 1
            begins(0) = 2
            """);
        Edges.edge(27, "a bell that came behind was not heard", """
            table 01
            heardrow 1
            bell(5, 0)  strike(11, 5)
            begins(0) = 2  night(0) = 0
            heardrow -1 0
            begins(0) = 1
            """);
        Edges.edge(27, "THE TABLE as it is then", """
            table 01
            heardrow 1
            strike(0, 1)  begins(0) = 3  begins(1) = NOT  set(0, 3)  begins(0) = 3  begins(1) = 1
            """);
    }

    private static void rest() {
        Edges.edge(28, "no bells", "rest() = 0  set(0, 2)  mix(1, 1)  rest() = 0");
        Edges.edge(28, "a lone bell", "table 01\nrest() = 0  mix(1, 1)  rest() = 1");
        Edges.edge(28, "a lone bell, all hours but one pair mixed", """
            table 012
            mix(1, 1)  mix(2, 1)
            rest() = 0  mix(102, 1)  rest() = 1
            """);
        Edges.edge(28, "two bells, one is heard then", """
            table 01 01
            rest() = 3  strike(11, 0)  rest() = 2  set(1, 1)  rest() = 2  strike(10, 0)  rest() = 0
            """);
        Edges.edge(28, "HEARD 1 less", "table 0011 0101 0110\nrest() = 0  set(1, 3)  rest() = 7");
        Edges.edge(28, "1 at least", "table 012 021\nset(1, 1)\nrest() = 3  strike(20, 1)  rest() = 1");
        Edges.edge(28, "of the others", "table 0123 0000 0000\nset(1, 3)\nrest() = 6  set(1, 2)  rest() = 0");
        Edges.edge(28, "all of the others, if there are fewer", """
            table 0011 0101 0110
            set(1, 6)
            rest() = 7  set(1, 4)  rest() = 7
            """);
        Edges.edge(28, "each alone", "table 01 01\nset(1, 6)\nrest() = 3");
        Edges.edge(28, "all hours are mixed", "table 00 00 00\nrest() = 0  mix(1, 1)  rest() = 7");
        Edges.edge(28, "hours that are not mixed just", "table 0012 0101\nrest() = 0  mix(1, 1)  rest() = 2");
        Edges.edge(28, "six bells", """
            table 01 01 01 01 01 00
            set(1, 1)
            rest() = 32  set(1, 2)  rest() = 32  set(1, 3)  rest() = 63
            """);
        Edges.edge(28, "six bells, all heard", "table 00 00 00 00 00 01\nset(1, 6)\nrest() = 31  set(1, 5)  rest() = 0");
    }

    /** Forty-one and more changes of one stroke: 1 .. 15, then 0, and so on. */
    private static String changes(int many) {
        StringBuilder all = new StringBuilder();
        for (int k = 1; k <= many; k++) {
            all.append("strike(0, ").append(k % 16).append(") = ").append((k - 1) % 16).append('\n');
        }
        return all.toString();
    }

    private static void undo() {
        Edges.edge(29, "none", "undo() = STATE\nmost 5\nundo() = STATE  strike(0, 1)  undo() = 0  undo() = STATE");
        Edges.edge(29, "the latest first", """
            most 5 5
            strike(0, 1)  strike(11, 2)  most(1, 7)  strike(0, 3)
            undo() = 3  of(0, 10) = 1  undo() = 2  of(1, 0) = 5  of(11, 10) = 2  undo() = 1  of(11, 10) = 0  undo() = 0
            of(0, 10) = 0  undo() = STATE
            """);
        StringBuilder back = new StringBuilder();
        for (int k = 39; k >= 0; k--) {
            back.append("undo() = ").append(k).append("  of(0, 10) = ").append(k % 16).append('\n');
        }
        Edges.edge(29, "40 are kept", "most 15\n" + changes(40) + "count(4) = 40\n" + back + "undo() = STATE");
        StringBuilder later = new StringBuilder();
        for (int k = 39; k >= 0; k--) {
            later.append("undo() = ").append(k).append("  of(0, 10) = ").append((k + 1) % 16).append('\n');
        }
        Edges.edge(29, "the 41st drops the first", "most 15\n" + changes(41) + "count(4) = 40\n" + later + "undo() = STATE  count(4) = 0");
        StringBuilder latest = new StringBuilder();
        for (int k = 39; k >= 0; k--) {
            latest.append("undo() = ").append(k).append("  of(0, 10) = ").append((k + 20) % 16).append('\n');
        }
        Edges.edge(29, "40 at most, however many", "most 15\n" + changes(60) + "count(4) = 40\n" + latest + "undo() = STATE  count(4) = 0");
        Edges.edge(29, "39 and 40", "most 15\n" + changes(39)
            + "count(4) = 39  strike(0, 9)  count(4) = 40  strike(0, 10)  count(4) = 40  undo() = 39  undo() = 38  of(0, 10) = 7");
        Edges.edge(29, "kinds of changes that were dropped", "most 15 15\nmost(1, 9)  strike(11, 4)  most(1, 8)\n"
            + changes(38) + "count(4) = 40\ntimes 40 undo()\ncount(4) = 0  of(1, 0) = 9  of(11, 10) = 0  of(0, 10) = 0  undo() = STATE");
        Edges.edge(29, "refused ones and like ones are none", """
            most 5
            strike(0, 6) = BAD  strike(0, 0) = 0  most(0, 5) = 5  most(0, 16) = BAD  undo() = STATE
            """);
        Edges.edge(29, "a bell of six, an hour of 24", """
            set(0, 24)
            most 5 5 5 5 5 5
            strike(235, 4)  most(5, 9)  strike(230, 3)
            undo() = 2  undo() = 1  undo() = 0  of(235, 10) = 0  of(5, 0) = 5  of(230, 10) = 0
            """);
        Edges.edge(29, "other calls stay", """
            most 5
            strike(0, 1)  mix(1, 1)  set(1, 5)  bell(3, 0)  body(2)  feed(104)  row(0, 0, 3)  hear(1)  night(1)
            undo() = 0  of(1, 20) = 1  count(2) = 5  count(0) = 2  count(5) = 1  count(3) = 1  undo() = STATE
            """);
        Edges.edge(29, "strokes come back within MOST", """
            most 5
            strike(0, 5)  strike(0, 1)  most(0, 1)
            undo() = 2  undo() = 1  of(0, 10) = 5  of(0, 0) = 5
            """);
    }

    private static void redo() {
        Edges.edge(30, "none", "redo() = STATE\nmost 5\nstrike(0, 1)  redo() = STATE  undo()  redo() = 0  redo() = STATE");
        Edges.edge(30, "the latest undone first", """
            most 5 5
            strike(0, 1)  most(1, 7)  strike(0, 3)
            times 3 undo()
            redo() = 2  of(0, 10) = 1  redo() = 1  of(1, 0) = 7  redo() = 0  of(0, 10) = 3  redo() = STATE  count(4) = 3
            """);
        StringBuilder on = new StringBuilder();
        for (int k = 1; k <= 40; k++) {
            on.append("redo() = ").append(40 - k).append("  of(0, 10) = ").append((k + 5) % 16).append('\n');
        }
        Edges.edge(30, "40 are done again", "most 15\n" + changes(45)
            + "times 40 undo()\nundo() = STATE  of(0, 10) = 5\n" + on + "redo() = STATE  count(4) = 40");
        Edges.edge(30, "as long as no other came behind", """
            most 5
            strike(0, 1)  strike(0, 2)  strike(0, 3)  undo() = 2  undo() = 1  strike(0, 4) = 1  redo() = STATE  count(4) = 2
            undo() = 1  of(0, 10) = 1  redo() = 0  of(0, 10) = 4
            """);
        Edges.edge(30, "another MOST came behind", """
            most 5
            strike(0, 1)  strike(0, 2)  undo() = 1  most(0, 6)  redo() = STATE  undo() = 1  undo() = 0  of(0, 0) = 5
            """);
        Edges.edge(30, "the same as was undone is another one too", """
            most 5
            strike(0, 1)  strike(0, 2)  undo() = 1  strike(0, 2) = 1  redo() = STATE  count(4) = 2
            """);
        Edges.edge(30, "another one behind all 40", "most 15\n"
            + changes(41) + "undo() = 39  strike(10, 7) = 0  count(4) = 40  redo() = STATE  strike(10, 8)  count(4) = 40\n"
            + "times 40 undo()\nof(0, 10) = 2  of(10, 10) = 0");
        Edges.edge(30, "what is no other one", """
            most 5
            strike(0, 1)  strike(0, 2)  undo() = 1
            strike(0, 1) = 1  strike(0, 6) = BAD  most(0, 5) = 5  most(0, 16) = BAD  mix(1, 1)  set(1, 3)  bell(1, 0)
            feed(104)  row(0, 0, 2)  strikes(0, 5, 0, 1) = 0  strikes(5, 0, 0, 1) = 0  line(0, 1) = BAD  sum(0, 1) = BAD
            set(0, 25) = BAD  law()
            redo() = 0  of(0, 10) = 2
            """);
        Edges.edge(30, "lay() forgets", "most 5\nstrike(0, 1)  strike(0, 2)  undo() = 1  lay()  redo() = STATE  undo() = STATE");
        Edges.edge(30, "line() forgets", """
            most 5 5
            strike(0, 1)  strike(0, 2)  undo() = 1  line(1, 2)  redo() = STATE  undo() = STATE
            """);
        Edges.edge(30, "sum() forgets", """
            most 5 5 5
            strike(0, 1)  strike(0, 2)  undo() = 1  sum(1, 2)  redo() = STATE  undo() = STATE
            """);
        Edges.edge(30, "set(0, ..) forgets", """
            most 5
            strike(0, 1)  strike(0, 2)  undo() = 1  set(0, 11)  redo() = STATE  undo() = STATE
            """);
        Edges.edge(30, "strikes() forgets, if some came", """
            most 5
            strike(0, 1)  strike(0, 2)  undo() = 1  row(0, 0, 1)  strikes(0, 0, 0, 1) = 1  redo() = STATE  undo() = STATE
            """);
        Edges.edge(30, "to and fro", """
            most 5
            strike(0, 1)  strike(0, 2)
            undo() = 1  redo() = 0  undo() = 1  undo() = 0  redo() = 1  undo() = 0  redo() = 1  redo() = 0  redo() = STATE
            of(0, 10) = 2  count(4) = 2
            """);
    }
}
