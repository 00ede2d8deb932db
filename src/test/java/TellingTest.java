/** Promises 5 to 8: event, burst, mark, idle. */
public final class TellingTest {
    @Says(promise = 5, value = "An event comes to a port: how many ROWS there are then.")
    static void event() {
        WindowMill x = Check.mill(Check.FIXED, 5, 0, Check.TOGETHER, 0, 1);
        Check.due("a first row", x.event(0, 0, 0, Check.MIN), 1);
        Check.due("a second", x.event(0, 999, 100000, Check.MAX), 2);
        Check.due("to a port that feeds nothing", x.event(7, 1, 1, 1), 2);
        Check.due("a BACK and a PUT", x.event(0, 0, 4, 1), 4);
        Check.dueRows(x, 0, "+0 0 0..5 -2147483648", "+0 999 100000..100005 2147483647", "-0 0 0..5 -2147483648",
                "+0 0 0..5 -2147483647");
        Check.due("told", x.count(1), 4);
        Check.due("came", x.about(0, 2), 3);
    }

    private static WindowMill withAnEvent() {
        WindowMill x = Check.mill(Check.FIXED, 5, 0, Check.TOGETHER, 0, 1);
        x.event(0, 3, 3, 3);
        return x;
    }

    @Says(promise = 5, value = "NONE.")
    static void eventNone() {
        int[][] none = {
            {-1, 0, 0}, {8, 0, 0}, {0, -1, 0}, {0, 1000, 0}, {0, 0, -1}, {0, 0, 100001}, {Check.MIN, 0, 0},
            {Check.MAX, 0, 0}, {0, Check.MIN, 0}, {0, Check.MAX, 0}, {0, 0, Check.MIN}, {0, 0, Check.MAX}};
        for (int[] c : none) {
            String name = "event(" + c[0] + ", " + c[1] + ", " + c[2] + ", 9)";
            Check.refused(Check.NONE, TellingTest::withAnEvent, name, x -> x.event(c[0], c[1], c[2], 9));
        }
    }

    @Says(promise = 5, value = "FULL.")
    static void eventFull() {
        WindowMill x = Check.mill(Check.FIXED, 5, 0, Check.HOW_MANY, 0, 0);
        Check.tell(x, 2999);
        Check.due("the last", x.event(0, 0, 0, 0), 0);
        Check.due("one more", x.event(0, 0, 0, 0), Check.FULL);
        Check.due("one of another port", x.event(1, 0, 0, 0), Check.FULL);
        Check.due("one of no port", x.event(8, 0, 0, 0), Check.NONE);
        x.mark(0, 5);
        Check.dueRows(x, 0, "+0 0 0..5 3000");
    }

    @Says(promise = 6, value = "n (1 .. 200) events come to a port, one behind the other:")
    static void burst() {
        WindowMill x = Check.mill(Check.FIXED, 10, 0, Check.TOGETHER, 0, 2);
        Check.due("n 0", x.burst(0, 3, 0, 4, 1), Check.NONE);
        Check.due("n 1", x.burst(0, 1003, 90, 4, 1), 1);
        Check.due("n 5", x.burst(0, 5003, 0, 4, 1), 5);
        Check.dueRows(x, 0, "+0 3 0..10 3", "+0 3 10..20 9");
        Check.due("n 199", x.burst(0, 199003, 50, 0, 0), 199);
        Check.due("n 200", x.burst(0, 200003, 60, 0, 0), 200);
        Check.due("n 201", x.burst(0, 201003, 70, 0, 0), Check.NONE);
        Check.due("told", x.count(1), 405);
        Check.due("to a port that feeds nothing", x.burst(7, 3000, 0, 0, 0), 3);
        Check.due("came", x.about(0, 2), 405);
    }

    /** The second event of a burst finds what the first one has done: it is joined to it, and its row taken back. */
    @Says(promise = 6, value = "n (1 .. 200) events come to a port, one behind the other:")
    static void oneBehindTheOther() {
        WindowMill x = Check.mill(Check.SESSION, 2, 0, Check.TOGETHER, 0, 1);
        x.burst(0, 3001, 10, 2, 5);
        Check.dueRows(x, 0, "+0 1 10..13 5", "-0 1 10..13 5", "+0 1 10..15 11", "-0 1 10..15 11", "+0 1 10..17 18");
    }

    @Says(promise = 6, value = {"of KEY key, at minute, minute + step, ..,", "with the VALUES value, value + 1, .. (as longs):"})
    static void whatComesOfABurst() {
        int[][] steps = {{7, 0}, {7, 3}, {500, -7}, {100000, -500}, {0, 502}};
        for (int[] at : steps) {
            WindowMill x = Check.mill(Check.MERGE, 0, 0);
            Check.due("all 200", x.burst(0, 200999, at[0], at[1], Check.MAX - 1), at[1] == -7 ? 72 : 200);
            int last = at[1] == -7 ? 71 : 199;
            Check.due("KEY of the last", x.gave(0, 0), 999);
            Check.due("MINUTE of the last", x.gave(0, 1), at[0] + last * at[1]);
            Check.due("VALUE of the last", x.gaveValue(0), Check.MAX - 1L + last);
        }
        WindowMill y = Check.mill(Check.FIXED, 1, 0, Check.TOGETHER, 0, 1);
        y.burst(0, 4000, 6, -2, Check.MAX - 1);
        Check.dueRows(y, 0, "+0 0 6..7 2147483646", "+0 0 4..5 2147483647", "+0 0 2..3 2147483648", "+0 0 0..1 2147483649");
        y.burst(0, 2007, 50, 1, Check.MIN);
        Check.dueRows(y, 4, "+0 7 50..51 -2147483648", "+0 7 51..52 -2147483647");
    }

    @Says(promise = 6, value = "how many came, up to the first whose MINUTE is out of range,")
    static void burstOutOfRange() {
        int[][] due = {
            {99998, 1, 3}, {99999, 1, 2}, {100000, 1, 1}, {100001, 1, 0}, {100001, -1, 0}, {100000, 0, 9}, {99992, 1, 9},
            {99993, 1, 8}, {-1, 1, 0}, {-1, 0, 0}, {0, -1, 1}, {1, -1, 2}, {8, -1, 9}, {7, -1, 8}, {10, -4, 3},
            {100000, Check.MAX, 1}, {0, Check.MAX, 1}, {0, Check.MIN, 1}, {100000, Check.MIN, 1}, {Check.MAX, Check.MAX, 0},
            {Check.MIN, Check.MIN, 0}, {Check.MAX, Check.MIN, 0}, {0, 100000, 2}, {0, 50000, 3}, {0, 100001, 1}};
        for (int[] d : due) {
            WindowMill x = Check.mill(Check.MERGE, 0, 0);
            Check.due("burst from " + d[0] + " by " + d[1], x.burst(0, 9005, d[0], d[1], 0), d[2]);
            Check.due("told", x.count(1), d[2]);
            Check.due("came", x.about(0, 2), d[2]);
            Check.due("the last MINUTE", x.gave(0, 1), d[2] == 0 ? -1 : d[0] + (d[2] - 1) * d[1]);
        }
        // The third MINUTE would be in range again, if it were counted in 32 bits.
        WindowMill y = Check.mill(Check.MERGE, 0, 0);
        Check.due("no wrapping", y.burst(0, 3005, 0, Check.MIN, 0), 1);
        Check.due("nor after one that is out of range", y.burst(0, 3005, 100000, Check.MIN, 0), 1);
    }

    @Says(promise = 6, value = "or that is FULL.")
    static void burstFull() {
        for (int told : new int[] {2799, 2800, 2801, 2950, 2999, 3000}) {
            WindowMill x = Check.mill(Check.MERGE, 0, 0);
            Check.tell(x, told);
            int come = Math.min(200, 3000 - told);
            long before = x.gaveValue(0);
            Check.due("burst behind " + told, x.burst(0, 200007, 3, 1, 9), come);
            Check.due("told", x.count(1), told + come);
            Check.due("the last VALUE", x.gaveValue(0), come == 0 ? before : 9 + come - 1);
            Check.due("another burst", x.burst(0, 1007, 3, 1, 9), told + come < 3000 ? 1 : 0);
        }
    }

    @Says(promise = 6, value = {"NONE: no such port, n, key.", "(key and n come as one number: 1000 n + key.)"})
    static void burstNone() {
        int[] none = {Check.MIN, -200000, -5003, -1001, -1000, -999, -1, 0, 1, 999, 201000, 201001, 1000000, Check.MAX};
        for (int keys : none) {
            Check.refused(Check.NONE, TellingTest::withAnEvent, "burst of " + keys, x -> x.burst(0, keys, 3, 0, 9));
        }
        for (int port : new int[] {Check.MIN, -1, 8, Check.MAX}) {
            Check.refused(Check.NONE, TellingTest::withAnEvent, "burst to " + port, x -> x.burst(port, 1000, 3, 0, 9));
        }
        Check.due("no such port, and out of range", new WindowMill().burst(8, 1000, -1, 0, 0), Check.NONE);
        int[][] due = {{1000, 1, 0}, {1001, 1, 1}, {1999, 1, 999}, {2000, 2, 0}, {199999, 199, 999}, {200000, 200, 0},
            {200999, 200, 999}};
        for (int[] d : due) {
            WindowMill x = Check.mill(Check.MERGE, 0, 0);
            Check.due("burst of " + d[0], x.burst(0, d[0], 3, 0, 9), d[1]);
            Check.due("KEY of " + d[0], x.gave(0, 0), d[2]);
        }
    }

    @Says(promise = 7, value = "The MARK of a port becomes m (0 .. 200000): how many ROWS there are then.")
    static void mark() {
        WindowMill x = Check.mill(Check.FIXED, 10, 0);
        x.event(0, 1, 5, 0);
        x.event(0, 2, 5, 0);
        Check.due("0", x.mark(0, 0), 0);
        Check.due("1", x.mark(0, 1), 0);
        Check.due("just before the end", x.mark(0, 9), 0);
        Check.due("MARK", x.markOf(0), 9);
        Check.due("at the end", x.mark(0, 10), 2);
        Check.due("MARK then", x.markOf(0), 10);
        Check.due("of a port that feeds nothing", x.mark(5, 50), 2);
        Check.due("MARK of that", x.markOf(5), 50);
        Check.due("one less than the greatest", x.mark(0, 199999), 2);
        Check.due("the greatest", x.mark(0, 200000), 2);
        Check.due("MARK of the stage", x.about(0, 1), 200000);
        Check.due("the greatest at once", x.mark(7, 200000), 2);
    }

    private static WindowMill withAMark() {
        WindowMill x = withAnEvent();
        x.mark(0, 40);
        return x;
    }

    @Says(promise = 7, value = "NONE.")
    static void markNone() {
        int[][] none = {
            {-1, 50}, {8, 50}, {Check.MIN, 50}, {Check.MAX, 50}, {0, -1}, {0, 200001}, {0, Check.MIN}, {0, Check.MAX},
            {8, -1}};
        for (int[] c : none) {
            Check.refused(Check.NONE, TellingTest::withAMark, "mark(" + c[0] + ", " + c[1] + ")", x -> x.mark(c[0], c[1]));
        }
    }

    @Says(promise = 7, value = "BEHIND.")
    static void markBehind() {
        Check.refused(Check.BEHIND, TellingTest::withAMark, "mark(0, 39)", x -> x.mark(0, 39));
        Check.refused(Check.BEHIND, TellingTest::withAMark, "mark(0, 0)", x -> x.mark(0, 0));
        WindowMill x = withAMark();
        Check.due("the same", x.mark(0, 40), x.rows());
        Check.due("one more", x.mark(0, 41), x.rows());
        Check.due("MARK", x.markOf(0), 41);
        Check.due("now 40 is behind", x.mark(0, 40), Check.BEHIND);
        // A stage may be further on than a port that was IDLE; that port's own MARK is what counts.
        x.stage(Check.MERGE, 0, 0);
        Check.feedAll(x, new int[][] {{1, 0}, {1, 1}});
        x.idle(1, 1);
        Check.due("MARK of the stage", x.about(1, 1), 41);
        Check.due("behind the stage, not the port", x.mark(1, 20), x.rows());
    }

    @Says(promise = 8, value = "A port is IDLE (1) or not (0) from now: what it was.")
    static void idle() {
        WindowMill x = Check.mill(Check.FIXED, 10, 0);
        x.feed(0, 3);
        Check.due("not IDLE, and not IDLE again", x.idle(3, 0), 0);
        Check.due("still not", x.about(0, 7), 0);
        Check.due("was not", x.idle(0, 1), 0);
        Check.due("was", x.idle(0, 1), 1);
        Check.due("the other was not", x.idle(3, 1), 0);
        Check.due("both are", x.about(0, 7), 1);
        x.mark(3, 60);
        Check.due("no MARK comes through", x.about(0, 1), 0);
        Check.due("but it is told", x.markOf(3), 60);
        x.event(3, 2, 5, 0);
        Check.due("events come through", x.about(0, 4), 1);
        Check.due("no row yet", x.rows(), 0);
        Check.due("not any more", x.idle(3, 0), 1);
        Check.due("the MARK comes through", x.about(0, 1), 60);
        Check.dueRows(x, 0, "+0 2 0..10 1");
        Check.due("the first still is", x.idle(0, 0), 1);
        Check.due("now it is not", x.idle(0, 0), 0);
    }

    private static WindowMill withAnIdlePort() {
        WindowMill x = withAMark();
        x.idle(0, 1);
        return x;
    }

    @Says(promise = 8, value = "NONE.")
    static void idleNone() {
        int[][] none = {
            {-1, 0}, {-1, 1}, {8, 0}, {8, 1}, {Check.MIN, 1}, {Check.MAX, 1}, {0, -1}, {0, 2}, {0, Check.MIN}, {0, Check.MAX}};
        for (int[] c : none) {
            String name = "idle(" + c[0] + ", " + c[1] + ")";
            Check.refused(Check.NONE, TellingTest::withAMark, name, x -> x.idle(c[0], c[1]));
            Check.refused(Check.NONE, TellingTest::withAnIdlePort, name, x -> x.idle(c[0], c[1]));
        }
        for (int port = 0; port <= 7; port++) {
            Check.due("port " + port, new WindowMill().idle(port, 1), 0);
        }
    }

    public static void main(String[] args) {
        Check.runAll(TellingTest.class);
    }
}
