import java.math.BigInteger;
import java.util.ArrayList;
import java.util.HashSet;
import java.util.List;
import java.util.Set;

/**
 * The document once more, for the tests alone: every answer by trying all that the document's words name, in other
 * ways than AnyTwoBells (lists of sets and rows, snapshots, Java's own classes and arrays), however long it takes.
 */
final class NaiveBells {
    static final int BAD = -1, NOT = -2, FULL = -3, STATE = -5;

    static final class Bell {
        int most, cost, lost;
    }

    private final List<Bell> bells = new ArrayList<>();
    private int hours = 12, heard = 2;
    private int[][] table = new int[24][6];
    private boolean[][] mixed = new boolean[24][24];
    private final StringBuilder tape = new StringBuilder();
    private String law = null;
    private final List<int[][]> past = new ArrayList<>(), future = new ArrayList<>();
    private List<Integer> told = new ArrayList<>();
    private final List<List<Integer>> night = new ArrayList<>();
    private final List<NaiveTables.Table> bodies = new ArrayList<>();
    private List<Integer> trace = new ArrayList<>();
    private final Object[] shelves = new Object[6];

    private boolean isBell(int b) { return b >= 0 && b < bells.size(); }
    private boolean isHour(int h) { return h >= 0 && h < hours; }
    private boolean isCell(int hb) { return hb >= 0 && isHour(hb / 10) && isBell(hb % 10); }
    private boolean isPair(int gh) { return gh >= 0 && isHour(gh / 100) && isHour(gh % 100) && gh / 100 != gh % 100; }
    private static boolean in(long v, long from, long to) { return v >= from && v <= to; }

    /** The whole table and MOST of each bell, as rows of one array. */
    private int[][] snapshot() {
        int[][] s = new int[25][];
        for (int h = 0; h < 24; h++) s[h] = table[h].clone();
        s[24] = new int[6];
        for (int b = 0; b < bells.size(); b++) s[24][b] = bells.get(b).most;
        return s;
    }
    private void restore(int[][] s) {
        for (int h = 0; h < 24; h++) table[h] = s[h].clone();
        for (int b = 0; b < bells.size(); b++) if (s[24][b] > 0) bells.get(b).most = s[24][b];
    }
    private void changing() {
        past.add(snapshot());
        if (past.size() > 40) past.remove(0);
        future.clear();
    }
    private void forget() { past.clear(); future.clear(); }

    int bell(int most, int cl) {
        if (!in(most, 1, 15) || cl < 0 || !in(cl / 1000, 0, 99) || !in(cl % 1000, 0, 100)) return BAD;
        if (bells.size() == 6) return FULL;
        Bell b = new Bell();
        b.most = most;
        b.cost = cl / 1000;
        b.lost = cl % 1000;
        bells.add(b);
        return bells.size() - 1;
    }
    int set(int what, int v) {
        if (what == 0 && in(v, 2, 24)) {
            int was = hours;
            for (int h = v; h < 24; h++) table[h] = new int[6];
            for (int g = 0; g < 24; g++) for (int h = 0; h < 24; h++) if (g >= v || h >= v) mixed[g][h] = false;
            hours = v;
            forget();
            return was;
        }
        if (what == 1 && in(v, 1, 6)) {
            int was = heard;
            heard = v;
            return was;
        }
        return BAD;
    }
    int strike(int hb, int v) {
        if (!isCell(hb) || !in(v, 0, bells.get(hb % 10).most)) return BAD;
        int was = table[hb / 10][hb % 10];
        if (was != v) changing();
        table[hb / 10][hb % 10] = v;
        return was;
    }
    int strikes(int shelf, int i, int bell, int n) {
        if (!in(shelf, 0, 5) || !isBell(bell) || !in(n, 1, 24) || n > hours) return BAD;
        if (shelves[shelf] != null && !(shelves[shelf] instanceof byte[])) return -12;
        byte[] row = (byte[]) shelves[shelf];
        int came = 0;
        try {
            for (int k = 0; k < n; k++) {
                byte v = row[i + k];
                if (v < 0 || v > bells.get(bell).most) throw new IllegalArgumentException();
                table[k][bell] = v;
                came++;
            }
        } catch (RuntimeException end) {
            // those ahead came
        }
        if (came > 0) forget();
        return came;
    }
    int most(int bell, int v) {
        if (!isBell(bell) || !in(v, 1, 15)) return BAD;
        for (int h = 0; h < hours; h++) if (table[h][bell] > v) return BAD;
        int was = bells.get(bell).most;
        if (was != v) changing();
        bells.get(bell).most = v;
        return was;
    }
    int mix(int gh, int is) {
        if (!isPair(gh) || !in(is, 0, 1)) return BAD;
        int was = mixed[gh / 100][gh % 100] ? 1 : 0;
        mixed[gh / 100][gh % 100] = is == 1;
        mixed[gh % 100][gh / 100] = is == 1;
        return was;
    }
    int feed(int letter) {
        if (!in(letter, 0, 255)) return BAD;
        if (tape.length() == 120) return FULL;
        tape.append((char) letter);
        return tape.length();
    }
    int law() {
        String text = tape.toString();
        tape.setLength(0);
        int fault = NaiveLaw.fault(text);
        if (fault >= 0) return -100 - fault;
        law = text;
        return 1;
    }
    int lay() {
        for (int h = 0; h < hours; h++) for (int b = 0; b < bells.size(); b++) {
            int most = bells.get(b).most;
            int v = (h + b) % (most + 1);
            if (law != null) {
                int[] names = {h, b, most, hours, b == 0 ? 0 : table[h][b - 1], h == 0 ? 0 : table[h - 1][b]};
                v = NaiveLaw.value(law, names);
            }
            table[h][b] = v < 0 ? 0 : v > most ? most : v;
        }
        forget();
        return all();
    }
    private int all() {
        int all = 0;
        for (int h = 0; h < hours; h++) all += ofHour(h);
        return all;
    }
    private int ofHour(int h) {
        int all = 0;
        for (int b = 0; b < bells.size(); b++) all += table[h][b];
        return all;
    }
    private int ofBell(int b) {
        int all = 0;
        for (int h = 0; h < hours; h++) all += table[h][b];
        return all;
    }
    int line(int bell, int acg) {
        if (!isBell(bell) || acg < 0) return BAD;
        int a = acg / 10000, c = acg % 10000 / 100, g = acg % 100;
        if (!in(a, 0, 99) || !in(c, 0, 99) || !in(g, 2, 16)) return BAD;
        for (int h = 0; h < hours; h++) table[h][bell] = Math.min((a * h + c) % g, bells.get(bell).most);
        forget();
        return ofBell(bell);
    }
    int sum(int bell, int de) {
        if (!isBell(bell) || de < 0 || !isBell(de / 10) || !isBell(de % 10)) return BAD;
        if (Set.of(100 + bell).contains(100 + de / 10) || de / 10 == de % 10 || bell == de % 10) return BAD;
        for (int h = 0; h < hours; h++) table[h][bell] = (table[h][de / 10] + table[h][de % 10]) % (bells.get(bell).most + 1);
        forget();
        return ofBell(bell);
    }
    int of(int number, int what) {
        if (what >= 0 && what <= 2 && isBell(number)) {
            Bell b = bells.get(number);
            return what == 0 ? b.most : what == 1 ? b.cost : b.lost;
        }
        if (what == 10 && isCell(number)) return table[number / 10][number % 10];
        if (what == 20 && isPair(number)) return mixed[number / 100][number % 100] ? 1 : 0;
        return BAD;
    }

    /** All sets of so many of these bells, by their bits as numbers. */
    private static List<Integer> sets(int among, int size) {
        List<Integer> sets = new ArrayList<>();
        for (int s = 0; s < 64; s++) if ((s & ~among) == 0 && Integer.bitCount(s) == size) sets.add(s);
        return sets;
    }
    private int allBells() { return (1 << bells.size()) - 1; }
    private static boolean same(int[] a, int[] b, int set) {
        for (int k = 0; k < 6; k++) if ((set >> k & 1) == 1 && a[k] != b[k]) return false;
        return true;
    }
    private int[] fault(int[][] t, int among, int howMany) {
        for (int s : sets(among, Math.min(howMany, Integer.bitCount(among))))
            for (int g = 0; g < hours; g++) for (int h = g + 1; h < hours; h++)
                if (!mixed[g][h] && same(t[g], t[h], s)) return new int[] {s, g, h};
        return null;
    }
    int tells(int what) {
        if (!in(what, 0, 3)) return BAD;
        if (bells.isEmpty()) return STATE;
        int[] f = fault(table, allBells(), heard);
        if (what == 3) return f == null ? 1 : 0;
        return f == null ? NOT : f[what];
    }
    int gap(int what) {
        if (!in(what, 0, 1)) return BAD;
        if (bells.isEmpty()) return STATE;
        int least = 99;
        for (int g = 0; g < hours; g++) for (int h = 0; h < g; h++) if (!mixed[g][h]) {
            int d = 0;
            for (int b = 0; b < bells.size(); b++) if (table[g][b] != table[h][b]) d++;
            least = Math.min(least, d);
        }
        if (least == 99) return NOT;
        if (what == 0) return least;
        return least == 0 ? NOT : bells.size() - least + 1;
    }
    private Set<List<Integer>> rowsHeard(int h, int set) {
        Set<List<Integer>> rows = new HashSet<>();
        for (int loser = -1; loser < 6; loser++) {
            if (loser >= 0 && (set >> loser & 1) == 0) continue;
            List<Integer> row = new ArrayList<>();
            for (int b = 0; b < 6; b++) if ((set >> b & 1) == 1) row.add(b == loser ? Math.max(0, table[h][b] - 1) : table[h][b]);
            rows.add(row);
        }
        return rows;
    }
    int bears() {
        if (bells.isEmpty()) return STATE;
        for (int s : sets(allBells(), Math.min(heard, bells.size())))
            for (int g = 0; g < hours; g++) for (int h = 0; h < g; h++) if (!mixed[g][h]) {
                Set<List<Integer>> both = rowsHeard(g, s);
                both.retainAll(rowsHeard(h, s));
                if (!both.isEmpty()) return 0;
            }
        return 1;
    }
    int hear(int strokes) {
        if (!in(strokes, -1, 15)) return BAD;
        if (told.size() >= bells.size()) return FULL;
        told.add(strokes);
        return told.size();
    }
    private boolean fits(List<Integer> row, int h) {
        for (int b = 0; b < row.size(); b++) if (row.get(b) != -1 && row.get(b) != table[h][b]) return false;
        return true;
    }
    int which() {
        int bits = 0;
        for (int h = 0; h < hours; h++) if (fits(told, h)) bits += 1 << h;
        told = new ArrayList<>();
        return bits;
    }
    int alone(int bell, int strokes) {
        if (!isBell(bell) || !in(strokes, -1, 15)) return BAD;
        int[] often = new int[16];
        int bits = 0;
        for (int h = 0; h < hours; h++) {
            often[table[h][bell]]++;
            if (table[h][bell] == strokes) bits |= 1 << h;
        }
        if (strokes >= 0) return bits;
        int greatest = 0;
        for (int o : often) greatest = Math.max(greatest, o);
        return greatest;
    }
    int strokes(int what) {
        if (isHour(what)) return ofHour(what);
        int worst = 0, dear = 0, costs = 0, dearest = -1;
        for (int h = hours - 1; h >= 0; h--) if (ofHour(h) >= ofHour(worst)) worst = h;
        for (int b = 0; b < bells.size(); b++) {
            int c = ofBell(b) * 2 * bells.get(b).cost;
            costs += c;
            if (c > dearest) {
                dearest = c;
                dear = b;
            }
        }
        switch (what) {
            case 100: return all() * 2;
            case 101: return ofHour(worst);
            case 102: return worst;
            case 103: return costs;
            case 104: return bells.isEmpty() ? STATE : dear;
            default: return BAD;
        }
    }
    int kept() {
        for (int size = 0; size <= bells.size(); size++) for (int s : sets(allBells(), size)) {
            boolean all = true;
            for (int g = 0; g < hours; g++) for (int h = 0; h < g; h++) all &= mixed[g][h] || !same(table[g], table[h], s);
            if (all) return s;
        }
        return NOT;
    }
    private BigInteger above(int hour) {
        BigInteger sum = BigInteger.ZERO;
        for (int s = 0; s <= allBells(); s++) {
            boolean all = true;
            for (int g = 0; g < hours; g++) if (g != hour && !mixed[g][hour] && same(table[g], table[hour], s)) all = false;
            BigInteger p = BigInteger.ONE;
            for (int b = 0; b < bells.size(); b++)
                p = p.multiply(BigInteger.valueOf((s >> b & 1) == 1 ? 100 - bells.get(b).lost : bells.get(b).lost));
            if (all) sum = sum.add(p);
        }
        return sum;
    }
    long odds(int hour, int part) {
        if (!in(part, 0, 1) || hour != -1 && !isHour(hour)) return Long.MIN_VALUE;
        BigInteger below = BigInteger.valueOf(100).pow(bells.size()), above = BigInteger.ZERO;
        if (hour >= 0) above = above(hour);
        else {
            for (int h = 0; h < hours; h++) above = above.add(above(h));
            below = below.multiply(BigInteger.valueOf(hours));
        }
        BigInteger common = above.gcd(below);
        return (part == 0 ? above : below).divide(common).longValueExact();
    }
    private List<int[]> rows() {
        List<int[]> rows = new ArrayList<>();
        int[] m = new int[3];
        for (int b = 0; b < bells.size() && b < 3; b++) m[b] = bells.get(b).most;
        for (int i = 0; i <= m[0]; i++) for (int j = 0; j <= m[1]; j++) for (int k = 0; k <= m[2]; k++)
            rows.add(new int[] {i, j, k, 0, 0, 0});
        return rows;
    }
    private static int total(int[] row) { return row[0] + row[1] + row[2]; }
    int least(int hb) {
        if (hb != -1 && !isCell(hb)) return BAD;
        if (!in(bells.size(), 1, 3) || hours > 4) return STATE;
        List<int[]> rows = rows();
        if (BigInteger.valueOf(rows.size()).pow(hours).compareTo(BigInteger.valueOf(65536)) > 0) return STATE;
        int[] at = new int[hours];
        int[][] best = null;
        int bestTotal = 0;
        while (true) {
            int[][] t = new int[hours][];
            int total = 0;
            for (int h = 0; h < hours; h++) {
                t[h] = rows.get(at[h]);
                total += total(t[h]);
            }
            if ((best == null || total < bestTotal) && fault(t, allBells(), heard) == null) {
                best = t;
                bestTotal = total;
            }
            int h = hours - 1;
            while (h >= 0 && ++at[h] == rows.size()) at[h--] = 0;
            if (h < 0) break;
        }
        if (best == null) return NOT;
        return hb == -1 ? bestTotal : best[hb / 10][hb % 10];
    }
    private List<int[]> rowsBySums() {
        List<int[]> rows = rows();
        rows.sort((a, b) -> Integer.compare(total(a), total(b)));
        return rows;
    }
    private boolean toldApart(int[] a, int[] b) {
        for (int s : sets(allBells(), Math.min(heard, bells.size()))) if (same(a, b, s)) return false;
        return true;
    }
    int greedy(int hb) {
        if (hb != -1 && !isCell(hb)) return BAD;
        if (!in(bells.size(), 1, 3)) return STATE;
        List<int[]> found = new ArrayList<>();
        int sum = 0;
        for (int h = 0; h < hours; h++) {
            int[] mine = null;
            for (int[] row : rowsBySums()) {
                boolean all = true;
                for (int g = 0; g < h && all; g++) all = mixed[g][h] || toldApart(row, found.get(g));
                if (all) {
                    mine = row;
                    break;
                }
            }
            if (mine == null) return NOT;
            found.add(mine);
            sum += total(mine);
        }
        return hb == -1 ? sum : found.get(hb / 10)[hb % 10];
    }
    int alarm(int bell) {
        if (!isBell(bell)) return BAD;
        if (bells.size() > 3) return STATE;
        for (int[] row : rowsBySums()) {
            boolean all = true;
            for (int h = 0; h < hours && all; h++) all = toldApart(row, table[h]);
            if (all) return row[bell];
        }
        return NOT;
    }
    int night(int what) {
        if (what == 0) {
            night.clear();
            return 0;
        }
        if (what != 1) return BAD;
        if (night.size() == 12) return FULL;
        night.add(told);
        told = new ArrayList<>();
        return night.size();
    }
    int begins(int what) {
        if (!in(what, 0, 1)) return BAD;
        List<Integer> may = new ArrayList<>();
        int bits = 0;
        for (int h = 0; h < hours; h++) {
            boolean all = true;
            for (int k = 0; k < night.size(); k++) all &= fits(night.get(k), (h + k) % hours);
            if (all) {
                may.add(h);
                bits |= 1 << h;
            }
        }
        if (what == 0) return bits;
        if (may.size() < 2) return 0;
        for (int more = 0; more <= 24; more++) {
            boolean all = true;
            for (int g : may) for (int h : may) if (g != h && !mixed[g][h]) {
                boolean differ = false;
                for (int k = night.size(); k < night.size() + more; k++)
                    differ |= !same(table[(g + k) % hours], table[(h + k) % hours], allBells());
                all &= differ;
            }
            if (all) return more;
        }
        return NOT;
    }
    int rest() {
        int bits = 0;
        for (int b = 0; b < bells.size(); b++) {
            boolean may = bells.size() > 1 && fault(table, allBells() & ~(1 << b), Math.max(1, heard - 1)) == null;
            if (bells.size() == 1) {
                may = true;
                for (int g = 0; g < hours; g++) for (int h = 0; h < g; h++) may &= mixed[g][h];
            }
            if (may) bits |= 1 << b;
        }
        return bits;
    }
    int undo() {
        if (past.isEmpty()) return STATE;
        future.add(snapshot());
        restore(past.remove(past.size() - 1));
        return past.size();
    }
    int redo() {
        if (future.isEmpty()) return STATE;
        past.add(snapshot());
        restore(future.remove(future.size() - 1));
        return future.size();
    }
    int body(int kind) {
        if (!in(kind, 0, 7)) return BAD;
        if (bodies.size() == 50) return FULL;
        bodies.add(NaiveTables.make(kind, bodies.size()));
        return bodies.size() - 1;
    }
    int act(int body, int act, int x) {
        trace = new ArrayList<>();
        if (!in(body, 0, bodies.size() - 1) || !in(act, 0, 3)) return 0;
        NaiveTables.Table t = bodies.get(body);
        t.trace = trace;
        switch (act) {
            case 0: return t.strikes(x);
            case 1: return t.sounds(x);
            case 2: return t.rests(x);
            default: return t.tells(x);
        }
    }
    int trace(int i) { return in(i, 0, Math.min(24, trace.size()) - 1) ? trace.get(i) : BAD; }
    int keep(int shelf, int body) {
        if (!in(shelf, 0, 5) || !in(body, -1, bodies.size() - 1)) return BAD;
        shelves[shelf] = body == -1 ? null : bodies.get(body);
        return 1;
    }
    int row(int shelf, int sort, int n) {
        if (!in(shelf, 0, 5) || !in(sort, 0, 4) || n > 60) return BAD;
        try {
            shelves[shelf] = sort == 0 ? new byte[n] : sort == 1 ? new short[n] : sort == 2 ? new int[n]
                : sort == 3 ? new long[n] : new boolean[n];
        } catch (NegativeArraySizeException e) {
            return -14;
        }
        return 1;
    }
    int put(int shelf, int i, long v) {
        if (!in(shelf, 0, 5)) return BAD;
        Object o = shelves[shelf];
        if (o == null) return -11;
        try {
            if (o instanceof byte[]) ((byte[]) o)[i] = (byte) v;
            else if (o instanceof short[]) ((short[]) o)[i] = (short) v;
            else if (o instanceof int[]) ((int[]) o)[i] = (int) v;
            else if (o instanceof boolean[]) ((boolean[]) o)[i] = v != 0;
            else ((long[]) o)[i] = v;
        } catch (ClassCastException e) {
            return -12;
        } catch (ArrayIndexOutOfBoundsException e) {
            return -13;
        }
        return 1;
    }
    long element(int shelf, int i) {
        try {
            Object o = shelves[shelf];
            if (o instanceof boolean[]) return ((boolean[]) o)[i] ? 1 : 0;
            return java.lang.reflect.Array.getLong(o, i);
        } catch (RuntimeException e) {
            return Long.MIN_VALUE;
        }
    }
    int shift(int shelf, int i, int other, int j, int n) {
        if (!in(shelf, 0, 5) || !in(other, 0, 5)) return BAD;
        try {
            System.arraycopy(shelves[shelf], i, shelves[other], j, n);
        } catch (NullPointerException e) {
            return -11;
        } catch (ArrayStoreException e) {
            return -12;
        } catch (ArrayIndexOutOfBoundsException e) {
            return -13;
        }
        return n;
    }
    int taken(int shelf, int k) {
        if (!in(shelf, 0, 5) || !in(k, 0, 7)) return BAD;
        Object o = shelves[shelf];
        if (o == null) return -11;
        if (!NaiveTables.make(k, 0).getClass().isInstance(o)) return -12;
        return NaiveTables.kindOf((NaiveTables.Table) o);
    }
    int count(int what) {
        int[] counts = {bells.size(), hours, heard, tape.length(), past.size(), bodies.size(), trace.size()};
        return in(what, 0, 6) ? counts[what] : BAD;
    }
}
