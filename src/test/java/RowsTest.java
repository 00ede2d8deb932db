import java.util.function.Supplier;
import java.util.function.ToIntFunction;

/** "Terms", part 4: rows and refusals. */
public final class RowsTest {
    @Says({"ROWS are numbered from 0 on, as they are given:", "PUT or BACK."})
    static void numbersOfRows() {
        WindowMill x = Check.mill(Check.FIXED, 10, 0, Check.HOW_MANY, 0, 1);
        x.stage(Check.SESSION, 10, 0);
        x.window(1, Check.HOW_MANY, 0, 2);
        x.feed(1, 0);
        Check.due("row 0 is not there yet", x.row(0, 1), Check.NONE);
        x.event(0, 1, 5, 0);
        Check.due("row 0", x.row(0, 0), 0);
        Check.due("row 1 is not there yet", x.row(1, 0), Check.NONE);
        x.event(0, 1, 6, 0);
        Check.dueRows(x, 0, "+0 1 0..10 1", "-0 1 0..10 1", "+0 1 0..10 2", "+1 1 5..17 2");
        x.mark(0, 20);
        Check.dueRows(x, 4, "-0 1 0..10 2", "+0 1 0..10 2", "-1 1 5..17 2", "+1 1 5..17 2");
    }

    /** Row i of many is still the i-th that was given, when thousands have come behind it. */
    @Says("ROWS are numbered from 0 on, as they are given:")
    static void thousandsOfRows() {
        WindowMill x = Check.mill(Check.FIXED, 1, 0, Check.TOGETHER, 0, 1);
        for (int i = 0; i < 15; i++) {
            x.burst(0, 200000 + i, 0, 1, 1000 * i);
        }
        Check.due("rows", x.rows(), 3000);
        for (int i : new int[] {0, 1, 199, 200, 511, 512, 1023, 1024, 1025, 2047, 2048, 2998, 2999}) {
            Check.dueText("row " + i, Check.shown(x, i),
                    "+0 " + i / 200 + " " + i % 200 + ".." + (i % 200 + 1) + " " + (1000 * (i / 200) + i % 200));
        }
        x.mark(0, 200);
        Check.due("a BACK and a PUT for each", x.rows(), 9000);
        Check.dueText("the last but one", Check.shown(x, 8998), "-0 14 199..200 14199");
        Check.dueText("the last", Check.shown(x, 8999), "+0 14 199..200 14199");
        Check.due("behind the last", x.row(9000, 0), Check.NONE);
        Check.due("as many are LEFT", x.left(0), 3000);
    }

    @Says("LEFT of a stage: those that were PUT and not taken back, in order of KEY, then begin, then end.")
    static void leftRows() {
        WindowMill x = Check.mill(Check.SESSION, 2, 0, Check.TOGETHER, 0, 0);
        x.stage(Check.FIXED, 10, 0);
        x.window(1, Check.TOGETHER, 0, 1);
        x.feed(1, 0);
        int[][] events = {{9, 6, 1}, {1, 26, 2}, {5, 11, 4}, {1, 16, 8}, {5, 1, 16}, {0, 30, 32}, {999, 0, 64}};
        for (int[] e : events) {
            x.event(0, e[0], e[1], e[2]);
        }
        Check.dueLeft(x, 0);
        Check.dueLeft(x, 1, "+1 0 30..40 32", "+1 1 10..20 8", "+1 1 20..30 2", "+1 5 0..10 16", "+1 5 10..20 4",
                "+1 9 0..10 1", "+1 999 0..10 64");
        x.event(0, 1, 17, 128);
        x.mark(0, 25);
        Check.dueLeft(x, 0, "+0 1 16..20 136", "+0 5 1..4 16", "+0 5 11..14 4", "+0 9 6..9 1", "+0 999 0..3 64");
        Check.dueLeft(x, 1, "+1 0 30..40 32", "+1 1 10..20 136", "+1 1 20..30 2", "+1 5 0..10 16", "+1 5 10..20 4",
                "+1 9 0..10 1", "+1 999 0..10 64");
    }

    /** Stages of all kinds, with events, rows PUT and taken back, windows LET GO, and an IDLE port. */
    private static WindowMill used() {
        WindowMill x = Check.mill(Check.MERGE, 0, 0);
        x.stage(Check.FIXED, 10, 0);
        x.window(1, Check.TOGETHER, 5, 2);
        x.stage(Check.SESSION, 5, 0);
        x.window(2, Check.MIDDLE, 5, 0);
        x.stage(Check.KEEP, 100, 0);
        x.stage(Check.SLIDING, 4, 2);
        x.window(4, Check.LEAST, 150, 1);
        Check.feedAll(x, new int[][] {{1, 8}, {2, 8}, {2, 1}, {3, 0}, {4, 11}});
        x.idle(1, 1);
        x.event(0, 3, 12, 5);
        x.event(0, 3, 13, 6);
        x.event(0, 4, 30, 7);
        x.mark(0, 21);
        x.event(0, 3, 14, 8);
        x.mark(0, 25);
        return x;
    }

    private static WindowMill ofSixteenStages() {
        WindowMill x = Check.merges(16);
        x.feed(15, 0);
        return x;
    }

    private static WindowMill ofAllEvents() {
        WindowMill x = Check.mill(Check.MERGE, 0, 0);
        x.stage(Check.MERGE, 0, 0);
        Check.tell(x, 3000);
        return x;
    }

    /** Port 0 has 32 ways to stages 0 to 5; port 1 has 4 to stages 6 to 9, which have windows. */
    private static WindowMill ofAllWays() {
        WindowMill x = Check.merges(6);
        for (int s = 0; s <= 4; s++) {
            x.feed(s, 0);
            for (int ahead = 0; ahead < s; ahead++) {
                x.feed(s, 8 + ahead);
            }
        }
        x.feed(5, 0);
        for (int s = 6; s <= 10; s++) {
            x.stage(Check.FIXED, 10, 0);
            x.feed(s, s < 10 ? 1 : 2);
        }
        return x;
    }

    private static void refused(int want, Supplier<WindowMill> made, String name, ToIntFunction<WindowMill> call) {
        Check.refused(want, made, name, call);
    }

    @Says({"REFUSALS, the first that holds:", "NONE (-1): there is no such thing, or a number is not as said;"})
    static void none() {
        Check.due("NONE", WindowMill.NONE, -1);
        refused(-1, RowsTest::used, "no such KIND", x -> x.stage(7, 1, 1));
        refused(-1, RowsTest::used, "a too small", x -> x.stage(Check.FIXED, 0, 1));
        refused(-1, RowsTest::used, "b too great", x -> x.stage(Check.KEEP, 0, 1001));
        refused(-1, RowsTest::used, "no such stage", x -> x.feed(5, 0));
        refused(-1, RowsTest::used, "no such port", x -> x.feed(3, -1));
        refused(-1, RowsTest::used, "no such stage to feed", x -> x.feed(3, 13));
        refused(-1, RowsTest::used, "no such stage", x -> x.window(5, 0, 0, 0));
        refused(-1, RowsTest::used, "no such SUM", x -> x.window(4, 6, 1, 2));
        refused(-1, RowsTest::used, "LATENESS", x -> x.window(4, 0, 100001, 2));
        refused(-1, RowsTest::used, "EARLY", x -> x.window(4, 0, 1, 1001));
        refused(-1, RowsTest::used, "no such port", x -> x.event(8, 0, 0, 0));
        refused(-1, RowsTest::used, "KEY", x -> x.event(0, 1000, 0, 0));
        refused(-1, RowsTest::used, "MINUTE", x -> x.event(0, 0, 100001, 0));
        refused(-1, RowsTest::used, "no such port", x -> x.burst(8, 1000, 40, 1, 0));
        refused(-1, RowsTest::used, "n is 0", x -> x.burst(0, 999, 40, 1, 0));
        refused(-1, RowsTest::used, "n is 201", x -> x.burst(0, 201000, 40, 1, 0));
        refused(-1, RowsTest::used, "no such port", x -> x.mark(8, 50));
        refused(-1, RowsTest::used, "mark too great", x -> x.mark(0, 200001));
        refused(-1, RowsTest::used, "no such port", x -> x.idle(8, 1));
        refused(-1, RowsTest::used, "is 2", x -> x.idle(0, 2));
        refused(-1, RowsTest::used, "is -1", x -> x.idle(1, -1));
        refused(-1, RowsTest::used, "no such row", x -> x.row(x.rows(), 0));
        refused(-1, RowsTest::used, "no such stage", x -> x.left(5));
        refused(-1, RowsTest::used, "no such row LEFT", x -> x.leftRow(1, x.left(1)));
        refused(-1, RowsTest::used, "no such what", x -> x.about(1, 8));
        refused(-1, RowsTest::used, "it gave none", x -> x.gave(3, 0));
        refused(-1, RowsTest::used, "no such stage", x -> x.apart(5));
        refused(-1, RowsTest::used, "no such what", x -> x.count(3));
        refused(-1, RowsTest::used, "no such port", x -> x.markOf(8));
    }

    @Says("KIND (-2): the stage is of another kind;")
    static void kind() {
        Check.due("KIND", WindowMill.KIND, -2);
        refused(-2, RowsTest::used, "window of a MERGE", x -> x.window(0, 0, 0, 0));
        refused(-2, RowsTest::used, "window of a KEEP", x -> x.window(3, 5, 100000, 1000));
        refused(-2, RowsTest::used, "left of a MERGE", x -> x.left(0));
        refused(-2, RowsTest::used, "apart of a KEEP", x -> x.apart(3));
    }

    @Says("RING (-3): what would feed is not ahead, is of KINDS 4 to 6, or feeds it already;")
    static void ring() {
        Check.due("RING", WindowMill.RING, -3);
        refused(-3, RowsTest::used, "not ahead: itself", x -> x.feed(3, 11));
        refused(-3, RowsTest::used, "not ahead: the next", x -> x.feed(3, 12));
        refused(-3, RowsTest::used, "of KIND 4", x -> x.feed(4, 9));
        refused(-3, RowsTest::used, "of KIND 6", x -> x.feed(4, 10));
        refused(-3, RowsTest::used, "feeds it already: a port", x -> x.feed(3, 0));
        refused(-3, RowsTest::used, "feeds it already: a stage", x -> x.feed(4, 11));
        WindowMill y = Check.mill(Check.SLIDING, 4, 2);
        y.stage(Check.MERGE, 0, 0);
        Check.due("of KIND 5", y.feed(1, 8), Check.RING);
    }

    @Says("STARTED (-4): an event came to the stage;")
    static void started() {
        Check.due("STARTED", WindowMill.STARTED, -4);
        refused(-4, RowsTest::used, "feed of a stage with one", x -> x.feed(3, 5));
        refused(-4, RowsTest::used, "feed by a stage", x -> x.feed(3, 8));
        refused(-4, RowsTest::used, "window", x -> x.window(1, 0, 0, 0));
        refused(-4, RowsTest::used, "window, as it is", x -> x.window(1, Check.TOGETHER, 5, 2));
        WindowMill x = used();
        Check.due("none came: window", x.window(4, 0, 0, 0), 1);
        Check.due("none came: feed", x.feed(4, 5), 2);
        Check.due("one comes", x.event(5, 1, 1, 1) > 0 ? 1 : 0, 1);
        Check.due("one came: window", x.window(4, 0, 0, 0), Check.STARTED);
        Check.due("one came: feed", x.feed(4, 6), Check.STARTED);
    }

    @Says("BEHIND (-5): the MARK would go back;")
    static void behind() {
        Check.due("BEHIND", WindowMill.BEHIND, -5);
        refused(-5, RowsTest::used, "one back", x -> x.mark(0, 24));
        refused(-5, RowsTest::used, "to 0", x -> x.mark(0, 0));
        WindowMill x = used();
        Check.due("the same is not back", x.mark(0, 25), x.rows());
        Check.due("one on is not back", x.mark(0, 26), x.rows());
        Check.due("MARK", x.markOf(0), 26);
        Check.due("that of another port", x.mark(2, 24), x.rows());
    }

    @Says("FULL (-6): 16 stages;")
    static void fullOfStages() {
        Check.due("FULL", WindowMill.FULL, -6);
        for (int kind = 0; kind <= 6; kind++) {
            int made = kind;
            refused(-6, RowsTest::ofSixteenStages, "stage of KIND " + kind, x -> x.stage(made, 4, 4));
        }
        WindowMill x = Check.merges(15);
        Check.due("the sixteenth", x.stage(Check.FIXED, 1, 1), 15);
        Check.due("a seventeenth", x.stage(Check.FIXED, 1, 1), Check.FULL);
    }

    @Says("3000 events were told;")
    static void fullOfEvents() {
        refused(-6, RowsTest::ofAllEvents, "event", x -> x.event(0, 0, 0, 0));
        refused(-6, RowsTest::ofAllEvents, "event to a port that feeds none", x -> x.event(7, 0, 0, 0));
        refused(0, RowsTest::ofAllEvents, "burst", x -> x.burst(0, 5000, 0, 0, 0));
        WindowMill x = Check.mill(Check.MERGE, 0, 0);
        Check.tell(x, 2998);
        Check.due("event 2999", x.event(7, 0, 0, 0), 0);
        Check.due("event 3000", x.event(0, 0, 0, 0), 0);
        Check.due("event 3001", x.event(0, 0, 0, 0), Check.FULL);
        Check.due("told", x.count(1), 3000);
        Check.due("came", x.about(0, 2), 2999);
    }

    @Says("a port would have more WAYS.")
    static void fullOfWays() {
        refused(-6, RowsTest::ofAllWays, "a way more to a stage", x -> x.feed(5, 8));
        refused(-6, RowsTest::ofAllWays, "16 ways more", x -> x.feed(5, 12));
        refused(-6, RowsTest::ofAllWays, "a way more to windows", x -> x.feed(10, 1));
        refused(-6, RowsTest::ofAllWays, "a way of port 0 to windows", x -> x.feed(10, 0));
        refused(-6, RowsTest::ofAllWays, "32 more of a port", x -> x.feed(6, 8 + 5));
        WindowMill x = ofAllWays();
        Check.due("port 2 has still some to windows", x.feed(9, 2), 2);
        Check.due("port 1 has still some to others", x.feed(5, 1), 2);
    }

    /** Each call is refused twice over: by the answer that is due, and by a later one. */
    @Says("REFUSALS, the first that holds:")
    static void theFirstThatHolds() {
        refused(-1, RowsTest::ofSixteenStages, "stage: NONE, FULL", x -> x.stage(7, 0, 0));
        refused(-1, RowsTest::ofSixteenStages, "stage: NONE by a, FULL", x -> x.stage(Check.SESSION, -1, 0));
        refused(-1, RowsTest::used, "feed: NONE, RING", x -> x.feed(0, 13));
        refused(-1, RowsTest::used, "feed: NONE, STARTED", x -> x.feed(3, -1));
        refused(-3, RowsTest::used, "feed: RING as it feeds already, STARTED", x -> x.feed(1, 8));
        refused(-3, RowsTest::used, "feed: RING as it is not ahead, STARTED", x -> x.feed(0, 8));
        refused(-3, RowsTest::used, "feed: RING by KIND, STARTED", x -> x.feed(3, 9));
        refused(-3, RowsTest::ofAllWays, "feed: RING as it feeds already, FULL", x -> x.feed(6, 1));
        refused(-4, RowsTest::ofAllWaysUsed, "feed: STARTED, FULL", x -> x.feed(5, 12));
        refused(-1, RowsTest::ofAllWays, "feed: NONE, FULL", x -> x.feed(11, 0));
        refused(-1, RowsTest::used, "window: NONE, KIND", x -> x.window(0, 6, 0, 0));
        refused(-1, RowsTest::used, "window: NONE by LATENESS, KIND", x -> x.window(3, 0, -1, 0));
        refused(-1, RowsTest::used, "window: NONE by EARLY, STARTED", x -> x.window(1, 0, 0, -1));
        refused(-2, RowsTest::used, "window: KIND, STARTED", x -> x.window(0, 0, 0, 0));
        refused(-1, RowsTest::ofAllEvents, "event: NONE by port, FULL", x -> x.event(8, 0, 0, 0));
        refused(-1, RowsTest::ofAllEvents, "event: NONE by KEY, FULL", x -> x.event(0, -1, 0, 0));
        refused(-1, RowsTest::ofAllEvents, "event: NONE by MINUTE, FULL", x -> x.event(0, 0, -1, 0));
        refused(-1, RowsTest::ofAllEvents, "burst: NONE by port, FULL", x -> x.burst(-1, 1000, 0, 0, 0));
        refused(-1, RowsTest::ofAllEvents, "burst: NONE by n, FULL", x -> x.burst(0, 0, 0, 0, 0));
        refused(-1, RowsTest::used, "mark: NONE, BEHIND", x -> x.mark(0, -1));
    }

    private static WindowMill ofAllWaysUsed() {
        WindowMill x = ofAllWays();
        x.event(0, 1, 1, 1);
        return x;
    }

    /** Told wrong numbers all the way, a mill does as one that was not. */
    @Says("A refused call changes nothing.")
    static void changesNothing() {
        WindowMill x = new WindowMill();
        x.stage(Check.FIXED, 10, 0);
        x.feed(0, 0);
        x.window(0, Check.TOGETHER, 5, 2);
        Check.due("stage", x.stage(Check.FIXED, 10001, 0), Check.NONE);
        Check.due("feed", x.feed(0, 8), Check.RING);
        Check.due("window", x.window(0, Check.LEAST, 9, 1001), Check.NONE);
        Check.due("idle", x.idle(0, 2), Check.NONE);
        x.event(0, 1, 3, 5);
        Check.due("event", x.event(0, 1, 100001, 7), Check.NONE);
        Check.due("window", x.window(0, Check.LEAST, 9, 1), Check.STARTED);
        Check.due("burst", x.burst(0, 1, 3, 1, 7), Check.NONE);
        x.event(0, 1, 4, 6);
        Check.due("mark", x.mark(0, 200001), Check.NONE);
        Check.dueRows(x, 0, "+0 1 0..10 11");
        x.mark(0, 14);
        Check.due("mark", x.mark(0, 13), Check.BEHIND);
        Check.due("feed", x.feed(0, 1), Check.STARTED);
        Check.dueRows(x, 1, "-0 1 0..10 11", "+0 1 0..10 11");
        Check.due("MARK", x.about(0, 1), 14);
        Check.due("events told", x.count(1), 2);
        Check.due("stages", x.count(0), 1);
        Check.due("one feeds it", x.about(0, 6), 1);
        x.mark(0, 15);
        Check.due("LET GO at its end and 5", x.count(2), 0);
    }

    /** Two mills, told in turn, do not see one another. */
    @Says("All memory is the class's own.")
    static void twoMills() {
        WindowMill x = used();
        String alone = Story.of(used());
        WindowMill y = Check.mill(Check.FIXED, 7, 0, Check.GREATEST, 3, 1);
        y.idle(3, 1);
        y.burst(0, 50003, 0, 3, 9);
        y.mark(0, 77);
        Check.dueText("the first one", Story.of(x), alone);
        WindowMill z = new WindowMill();
        Check.due("stages of a third", z.count(0), 0);
        Check.due("events of a third", z.count(1), 0);
        Check.due("windows of a third", z.count(2), 0);
        Check.due("rows of a third", z.rows(), 0);
        Check.due("marks of a third", z.markOf(0), 0);
        Check.due("IDLE of a third", z.idle(3, 0), 0);
    }

    public static void main(String[] args) {
        Check.runAll(RowsTest.class);
    }
}
