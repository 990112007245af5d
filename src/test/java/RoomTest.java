import com.sun.management.ThreadMXBean;
import java.lang.management.ManagementFactory;

/**
 * The room that a run takes: 512 calls of one kind, on an object that makes them dear, take no more bytes than there
 * may be fields and elements (7.3 million, each a byte at least; and so fewer objects than 600,000, each of 16 at least).
 */
public final class RoomTest {
    private static final long ROOM = 7_300_000;

    private static int passed = 0;
    private static int failed = 0;
    private static long most = 0;

    private interface Call {
        long ask(AnyTwoBells x, int k);
    }

    /** Three bells with tables to try, a long law, bodies, full shelves, a row of a night: 200 calls and some. */
    private static AnyTwoBells dear() {
        AnyTwoBells x = new AnyTwoBells();
        x.set(0, 4);
        x.bell(1, 10010);
        x.bell(3, 20020);
        x.bell(1, 30030);
        String law = "h*b+p-q*(m+n)/3%(h+1)<b;!h|-b?p+q*(b+1234);h&b?1;(((h)))>0?2";
        for (int k = 0; k < law.length(); k++) {
            x.feed(law.charAt(k));
        }
        x.law();
        for (int k = 0; k < 119; k++) {
            x.feed(k % 2 == 0 ? 'h' : '+');
        }
        x.body(7);
        x.hear(-1);
        x.night(1);
        for (int shelf = 0; shelf < 6; shelf++) {
            x.row(shelf, 0, 60);
        }
        return x;
    }

    private static void room(String what, Call call) {
        ThreadMXBean bean = (ThreadMXBean) ManagementFactory.getThreadMXBean();
        long id = Thread.currentThread().getId();
        long sum = 0;
        long before = bean.getThreadAllocatedBytes(id);
        AnyTwoBells x = dear();
        for (int k = 0; k < 300; k++) {
            sum += call.ask(x, k);
        }
        long bytes = bean.getThreadAllocatedBytes(id) - before;
        // some 200 calls went ahead: what 300 take is held to what is left for all 512
        if (bytes <= ROOM * 300 / 512) {
            passed++;
        } else {
            failed++;
            System.out.println(what + " takes " + bytes + " bytes (" + sum + ")");
        }
        most = Math.max(most, bytes);
    }

    private static void bellsAndTable() {
        room("new", (x, k) -> new AnyTwoBells().count(0));
        room("bell", (x, k) -> x.bell(1, 0));
        room("set", (x, k) -> x.set(k % 2, 2 + k % 3));
        room("strike", (x, k) -> x.strike(10 * (k % 4), k % 2));
        room("strikes", (x, k) -> x.strikes(k % 6, k % 50, 0, 4));
        room("most", (x, k) -> x.most(1, 3 + k % 2));
        room("mix", (x, k) -> x.mix(1, k % 2));
        room("feed", (x, k) -> k % 100 == 99 ? x.law() : x.feed('h'));
        room("law", (x, k) -> k % 2 == 0 ? x.feed('h') : x.law());
        room("lay", (x, k) -> x.lay());
        room("line", (x, k) -> x.line(1, 10104));
        room("sum", (x, k) -> x.sum(0, 12));
        room("of", (x, k) -> x.of(1, 20));
    }

    private static void telling() {
        room("tells", (x, k) -> x.tells(k % 4));
        room("gap", (x, k) -> x.gap(k % 2));
        room("bears", (x, k) -> x.bears());
        room("hear", (x, k) -> k % 4 == 3 ? x.which() : x.hear(0));
        room("which", (x, k) -> x.which());
        room("alone", (x, k) -> x.alone(0, -1));
        room("strokes", (x, k) -> x.strokes(100 + k % 5));
        room("kept", (x, k) -> x.kept());
        room("odds", (x, k) -> x.odds(-1, k % 2));
        room("least", (x, k) -> x.least(-1));
        room("greedy", (x, k) -> x.greedy(-1));
        room("alarm", (x, k) -> x.alarm(2));
        room("night", (x, k) -> x.night(k % 13 == 12 ? 0 : 1));
        room("begins", (x, k) -> x.begins(k % 2));
        room("rest", (x, k) -> x.rest());
        room("undo", (x, k) -> k % 2 == 0 ? x.strike(0, k / 2 % 2) : x.undo());
        room("redo", (x, k) -> k % 2 == 0 ? x.undo() : x.redo());
    }

    private static void shelves() {
        room("body", (x, k) -> x.body(k % 8));
        room("act", (x, k) -> x.act(0, 3, k));
        room("trace", (x, k) -> x.trace(0));
        room("keep", (x, k) -> x.keep(k % 6, 0));
        room("row", (x, k) -> x.row(k % 6, 3, 60));
        room("put", (x, k) -> x.put(k % 6, k % 60, k));
        room("element", (x, k) -> x.element(k % 6, k % 60));
        room("shift", (x, k) -> x.shift(k % 6, 0, (k + 1) % 6, 0, 60));
        room("taken", (x, k) -> x.taken(0, 0));
        room("count", (x, k) -> x.count(k % 7));
    }

    public static void main(String[] args) {
        bellsAndTable();
        telling();
        shelves();
        System.out.println("at most " + most + " bytes for an object and 300 calls of one kind");
        System.out.println(passed + " passed, " + failed + " failed");
        if (failed != 0) {
            System.exit(1);
        }
    }
}
