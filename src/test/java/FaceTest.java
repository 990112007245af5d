import java.lang.reflect.Constructor;
import java.lang.reflect.Field;
import java.lang.reflect.Member;
import java.lang.reflect.Method;
import java.lang.reflect.Modifier;
import java.util.Set;
import java.util.TreeSet;

/** The public face as the document writes it, sort by sort, and nothing beside it that is not private. */
public final class FaceTest {
    private static final String FACE = """
        public AnyTwoBells();
        public int bell(int most, int cl);
        public int set(int what, int v);
        public int strike(int hb, int v);
        public int strikes(int shelf, int i, int bell, int n);
        public int most(int bell, int v);
        public int mix(int gh, int is);
        public int feed(int letter);
        public int law();
        public int lay();
        public int line(int bell, int acg);
        public int sum(int bell, int de);
        public int of(int number, int what);
        public int tells(int what);
        public int gap(int what);
        public int bears();
        public int hear(int strokes);
        public int which();
        public int alone(int bell, int strokes);
        public int strokes(int what);
        public int kept();
        public long odds(int hour, int part);
        public int least(int hb);
        public int greedy(int hb);
        public int alarm(int bell);
        public int night(int what);
        public int begins(int what);
        public int rest();
        public int undo();
        public int redo();
        public int body(int kind);
        public int act(int body, int act, int x);
        public int trace(int i);
        public int keep(int shelf, int body);
        public int row(int shelf, int sort, int n);
        public int put(int shelf, int i, long v);
        public long element(int shelf, int i);
        public int shift(int shelf, int i, int other, int j, int n);
        public int taken(int shelf, int k);
        public int count(int what);
        """;
    private static final String CONSTANTS = """
        public static final int BAD = -1
        public static final int NOT = -2
        public static final int FULL = -3
        public static final int STATE = -5
        public static final int VOID = -2000000000
        """;

    private static int passed = 0;
    private static int failed = 0;

    private static void due(String what, Object got, Object want) {
        if (got.equals(want)) {
            passed++;
        } else {
            failed++;
            System.out.println(what + ": " + got + ", due is " + want);
        }
    }

    /** A line of the document without the names of what a call takes, which the machine forgets. */
    private static Set<String> linesOf(String told) {
        Set<String> lines = new TreeSet<>();
        for (String line : told.split("\n")) {
            lines.add(line.replaceAll("(int|long) \\w+(?=[,)])", "$1").replace(";", ""));
        }
        return lines;
    }

    private static boolean isOutside(Member member) {
        return !Modifier.isPrivate(member.getModifiers()) && !member.isSynthetic();
    }

    private static String takes(Class<?>[] sorts) {
        StringBuilder told = new StringBuilder("(");
        for (int k = 0; k < sorts.length; k++) {
            told.append(k == 0 ? "" : ", ").append(sorts[k].getName());
        }
        return told.append(')').toString();
    }

    private static Set<String> calls() {
        Set<String> found = new TreeSet<>();
        for (Constructor<?> made : AnyTwoBells.class.getDeclaredConstructors()) {
            if (isOutside(made)) {
                found.add(Modifier.toString(made.getModifiers()) + " AnyTwoBells" + takes(made.getParameterTypes()));
            }
        }
        for (Method call : AnyTwoBells.class.getDeclaredMethods()) {
            if (isOutside(call)) {
                found.add(Modifier.toString(call.getModifiers()) + " " + call.getReturnType().getName() + " " + call.getName()
                    + takes(call.getParameterTypes()));
            }
        }
        return found;
    }

    private static Set<String> constants() throws IllegalAccessException {
        Set<String> found = new TreeSet<>();
        for (Field field : AnyTwoBells.class.getDeclaredFields()) {
            if (isOutside(field)) {
                found.add(Modifier.toString(field.getModifiers()) + " " + field.getType().getName() + " " + field.getName()
                    + " = " + field.get(null));
            }
        }
        return found;
    }

    public static void main(String[] args) throws Exception {
        due("the class", Modifier.toString(AnyTwoBells.class.getModifiers()), "public final");
        due("above it", AnyTwoBells.class.getSuperclass(), Object.class);
        due("interfaces", AnyTwoBells.class.getInterfaces().length, 0);
        due("its package", AnyTwoBells.class.getPackageName(), "");
        due("constants", constants(), linesOf(CONSTANTS));
        due("calls", calls(), linesOf(FACE));
        System.out.println(passed + " passed, " + failed + " failed");
        if (failed != 0) {
            System.exit(1);
        }
    }
}
