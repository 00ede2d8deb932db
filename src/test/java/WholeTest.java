/** "What it is": the whole, and how long an object is used. */
public final class WholeTest {
    /** Port, KEY, MINUTE and VALUE. What is below 10 is not kept. */
    private static final int[][] EVENTS = {
        {0, 1, 3, 10}, {1, 1, 8, 20}, {0, 2, 9, 9}, {1, 2, 11, 30}, {0, 1, 12, 40}, {1, 1, 26, 50}, {0, 1, 30, 11},
        {1, 2, 39, 9}};

    /** KEEP, MAP and MERGE, one behind the other, and behind them windows of each kind. */
    private static WindowMill made(int early) {
        WindowMill x = new WindowMill();
        int[][] stages = {
            {Check.KEEP, 10, 0}, {Check.MAP, 2, 1}, {Check.MERGE, 0, 0}, {Check.FIXED, 10, 0}, {Check.SLIDING, 20, 10},
            {Check.SESSION, 5, 0}};
        for (int[] s : stages) {
            x.stage(s[0], s[1], s[2]);
        }
        Check.feedAll(x, new int[][] {{0, 0}, {0, 1}, {1, 8}, {2, 9}, {3, 10}, {4, 10}, {5, 10}});
        x.window(3, Check.TOGETHER, 1000, early);
        x.window(4, Check.HOW_MANY, 1000, early);
        x.window(5, Check.GREATEST, 1000, early);
        return x;
    }

    private static void dueTable(WindowMill x) {
        Check.dueLeft(x, 3, "+3 1 0..10 62", "+3 1 10..20 81", "+3 1 20..30 101", "+3 1 30..40 23", "+3 2 10..20 61");
        Check.dueLeft(x, 4, "+4 1 -10..10 2", "+4 1 0..20 3", "+4 1 10..30 2", "+4 1 20..40 2", "+4 1 30..50 1",
                "+4 2 0..20 1", "+4 2 10..30 1");
        Check.dueLeft(x, 5, "+5 1 3..18 81", "+5 1 26..36 101", "+5 2 11..17 61");
    }

    /** In any order of the events, told early or not, with a MARK ahead of any of them, the same rows are left. */
    @Says(promise = -1, value = {"A mill for streams of events that come late and out of order:",
        "stages that keep, change and merge them, windows that stand, slide or grow together,",
        "marks that say how far time is, answers given early and taken back, state kept small;",
        "and the rows that are left are just what a table of all events would say."})
    static void theRowsAreTheTable() {
        for (int early = 0; early <= 2; early++) {
            for (int step : new int[] {1, 3, 5, 7}) {
                for (int marked = 0; marked <= EVENTS.length; marked++) {
                    WindowMill x = made(early);
                    for (int i = 0; i <= EVENTS.length; i++) {
                        if (i == marked) {
                            x.mark(0, 25);
                            x.mark(1, 33);
                        }
                        int[] e = EVENTS[i * step % EVENTS.length];
                        if (i < EVENTS.length) {
                            x.event(e[0], e[1], e[2], e[3]);
                        }
                    }
                    x.mark(0, 500);
                    x.idle(1, 1);
                    dueTable(x);
                    Check.due("windows that can still change", x.count(2), 15);
                    x.mark(0, 5000);
                    Check.due("windows when none can", x.count(2), 0);
                    Check.due("events in them", x.about(3, 5) + x.about(4, 5) + x.about(5, 5), 0);
                    dueTable(x);
                }
            }
        }
    }

    @Says(promise = -1, value = {"An object is used for at most 512 calls after it has been made;",
        "what later calls answer is free."})
    static void toTheLastCall() {
        WindowMill told = Check.mill(Check.FIXED, 10, 0);
        for (int call = 3; call <= 511; call++) {
            Check.due("call " + call, told.event(0, call, 5, 0), 0);
        }
        Check.due("call 512: each KEY has a row", told.mark(0, 10), 509);
        WindowMill asked = Check.mill(Check.FIXED, 10, 0, Check.TOGETHER, 0, 1);
        asked.event(0, 7, 5, 42);
        for (int call = 5; call <= 512; call++) {
            Check.due("call " + call, call % 2 == 0 ? asked.sum(0) : asked.row(0, 2), call % 2 == 0 ? 42 : 7);
        }
    }

    public static void main(String[] args) {
        Check.runAll(WholeTest.class);
    }
}
