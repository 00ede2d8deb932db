import java.lang.management.ManagementFactory;

/** The dearest runs stay in the room that all calls of one run share. */
public final class RoomTest {
    /** 7.3 million fields and elements, were they of 8 bytes each; we ask for a quarter of that. */
    private static final long ROOM = 7_300_000L * 8 / 4;

    private static long used() {
        return ((com.sun.management.ThreadMXBean) ManagementFactory.getThreadMXBean())
                .getThreadAllocatedBytes(Thread.currentThread().getId());
    }

    private static WindowMill fourStages(int kind, int a, int b) {
        WindowMill x = new WindowMill();
        for (int s = 0; s < 4; s++) {
            x.stage(kind, a, b);
            x.feed(s, 0);
            x.window(s, Check.MIDDLE, 0, 1);
        }
        return x;
    }

    private static void told(String run, WindowMill x, long before, int wantRows) {
        x.mark(0, 200000);
        for (int s = 0; s < 4; s++) {
            Check.due(run + ": apart", x.apart(s), 0);
            Check.due(run + ": all LET GO", x.about(s, 4), 0);
            Check.due(run + ": the last LEFT", x.leftRow(s, x.left(s) - 1) >= 0 ? 1 : 0, 1);
        }
        long bytes = used() - before;
        Check.due(run + ": rows", x.rows(), wantRows);
        Check.due(run + ": room for " + bytes + " bytes", bytes <= ROOM ? 1 : 0, 1);
    }

    /** Each event makes four windows in each of four stages, and each window gives three rows. */
    private static void mostWindows() {
        long before = used();
        WindowMill x = fourStages(Check.SLIDING, 4, 1);
        for (int i = 0; i < 15; i++) {
            x.burst(0, 200000 + i, 800 * i, 4, 0);
        }
        told("most windows", x, before, 3 * 48000);
    }

    /** Events come backwards, so that each goes to the front of its lane. */
    private static void backwards() {
        long before = used();
        WindowMill x = fourStages(Check.SLIDING, 4, 1);
        for (int i = 15; i > 0; i--) {
            x.burst(0, 200000, 800 * i, -4, 0);
        }
        told("backwards", x, before, 3 * 48000);
    }

    /** All events are in one window, and each gives its row anew. */
    private static void oneWindow() {
        long before = used();
        WindowMill x = fourStages(Check.FIXED, 10000, 1);
        for (int i = 0; i < 15; i++) {
            x.burst(0, 200000, 0, 1, -200 * i);
        }
        told("one window", x, before, 4 * (3000 + 2999 + 2));
    }

    /** Sessions of one event each, then events between them that join each with all that lies before it. */
    private static void joining() {
        long before = used();
        WindowMill x = fourStages(Check.SESSION, 2, 0);
        for (int i = 0; i < 8; i++) {
            x.burst(0, 187000, 4 * 187 * i, 4, 3 * i);
        }
        Check.due("joining: sessions", x.count(2), 4 * 8 * 187);
        for (int i = 0; i < 8; i++) {
            x.burst(0, 187000, 4 * 187 * i + 2, 4, 7 * i);
        }
        Check.due("joining: one session", x.count(2), 4);
        // Each event of the first ones gives a row; each of the others takes back two, but the last, and gives one.
        told("joining", x, before, 4 * (1496 + 3 * 1495 + 2 + 2));
    }

    /** Each event is of a KEY that none of its stages has seen, and makes four windows in each of four. */
    private static void mostKeys() {
        long before = used();
        WindowMill x = new WindowMill();
        for (int port = 0; port < 3; port++) {
            int keyed = x.stage(Check.KEYED, 1000, 0);
            x.feed(keyed, port);
            for (int i = 1; i <= 4; i++) {
                int s = x.stage(Check.SLIDING, 4, 1);
                x.feed(s, 8 + keyed);
                x.window(s, Check.MIDDLE, 0, 1);
            }
        }
        for (int i = 0; i < 15; i++) {
            x.burst(i / 5, 200000, 100 * i, 1, 200 * i);
        }
        for (int port = 0; port < 3; port++) {
            x.mark(port, 200000);
        }
        long bytes = used() - before;
        Check.due("most keys: rows", x.rows(), 3 * 48000);
        Check.due("most keys: room for " + bytes + " bytes", bytes <= ROOM ? 1 : 0, 1);
    }

    private static void manyMills() {
        long before = used();
        for (int i = 0; i < 30; i++) {
            WindowMill x = new WindowMill();
            for (int s = 0; s < 16; s++) {
                x.stage(Check.FIXED, 10, 0);
            }
        }
        long bytes = used() - before;
        Check.due("many mills: room for " + bytes + " bytes", bytes <= ROOM ? 1 : 0, 1);
    }

    public static void main(String[] args) {
        mostWindows();
        backwards();
        oneWindow();
        joining();
        mostKeys();
        manyMills();
        Check.end("RoomTest");
    }
}
