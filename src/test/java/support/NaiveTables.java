import java.util.List;

/** The document's KINDS as Java's own classes, so that Java itself says which body runs. */
final class NaiveTables {
    interface Strikes {
        int number();
        void ran(int body);
        default int strikes(int x) { ran(1); return x + number(); }
    }

    interface Tells {
        int sounds(int x);
        int rests(int x);
        void ran(int body);
        default int tells(int x) { ran(2); return sounds(x) - rests(1); }
    }

    static class Table implements Strikes, Tells {
        int n;
        List<Integer> trace;
        public int number() { return n; }
        public void ran(int body) { trace.add(body); }
        public int sounds(int x) { ran(10); return strikes(x) * 2; }
        public int rests(int x) { ran(11); return x ^ n; }
    }

    static class Plain extends Table {
        public int strikes(int x) { ran(20); return super.strikes(x) + 3; }
    }

    static class Sum extends Table {
        public int sounds(int x) { ran(30); return -super.sounds(x); }
    }

    static class Line extends Sum {
        public int rests(int x) { ran(40); return super.rests(x) * 3; }
        public int sounds(int x) { ran(41); return super.sounds(x + 1); }
    }

    static class Zero extends Table {
        public int rests(int x) { ran(50); return super.rests(x) - strikes(2); }
    }

    static class Night extends Plain {
        public int tells(int x) { ran(60); return super.tells(x) ^ 5; }
    }

    static class Told extends Table {
        public int strikes(int x) { ran(70); return super.strikes(x) * 2; }
    }

    static class Cracked extends Line {
        public int sounds(int x) { ran(80); return super.sounds(x) + rests(2); }
        public int tells(int x) { ran(81); return super.tells(x) - 1; }
    }

    static Table make(int kind, int n) {
        Table t = kind == 0 ? new Table() : kind == 1 ? new Plain() : kind == 2 ? new Sum() : kind == 3 ? new Line()
            : kind == 4 ? new Zero() : kind == 5 ? new Night() : kind == 6 ? new Told() : new Cracked();
        t.n = n;
        return t;
    }

    static int kindOf(Table t) {
        return List.of("Table", "Plain", "Sum", "Line", "Zero", "Night", "Told", "Cracked").indexOf(t.getClass().getSimpleName());
    }

    private NaiveTables() {
    }
}
