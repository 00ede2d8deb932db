/** Promises 9 to 19: rows, row, sum, left, leftRow, about, gave, gaveValue, apart, count, markOf. */
public final class AskingTest {
    private static final int[] NO_STAGE = {Check.MIN, -1, 2, 15, 16, Check.MAX};

    /** Stage 0, SLIDING, has two rows; stage 1 is a MERGE. */
    private static WindowMill withTwoRows() {
        WindowMill x = Check.mill(Check.SLIDING, 4, 1, Check.GREATEST, 0, 0);
        x.stage(Check.MERGE, 0, 0);
        x.event(0, 8, 2, -5);
        x.mark(0, 4);
        return x;
    }

    @Says(promise = 9, value = "How many ROWS were given.")
    static void rows() {
        WindowMill x = Check.mill(Check.FIXED, 10, 0, Check.HOW_MANY, 5, 2);
        Check.due("at first", x.rows(), 0);
        x.event(0, 1, 1, 0);
        Check.due("none of one event", x.rows(), 0);
        x.event(0, 1, 1, 0);
        Check.due("a PUT", x.rows(), 1);
        x.mark(0, 10);
        Check.due("a BACK and a PUT", x.rows(), 3);
        x.mark(0, 15);
        Check.due("none of LETTING GO", x.rows(), 3);
        x.event(0, 1, 1, 0);
        Check.due("none of a DROPPED one", x.rows(), 3);
    }

    @Says(promise = 10, value = "ROW i: 0 PUT (0) or BACK (1), 1 the stage, 2 the KEY, 3 begin, 4 end.")
    static void row() {
        WindowMill x = Check.merges(15);
        x.stage(Check.FIXED, 10, 0);
        x.window(15, Check.HOW_MANY, 0, 1);
        x.feed(15, 0);
        x.event(0, 999, 57, 0);
        x.event(0, 999, 58, 0);
        int[][] want = {{0, 15, 999, 50, 60}, {1, 15, 999, 50, 60}, {0, 15, 999, 50, 60}};
        for (int i = 0; i < want.length; i++) {
            for (int what = 0; what <= 4; what++) {
                Check.due("row(" + i + ", " + what + ")", x.row(i, what), want[i][what]);
            }
        }
        WindowMill y = Check.mill(Check.SESSION, 10000, 0, Check.HOW_MANY, 0, 1);
        y.event(0, 0, 100000, 0);
        int[] greatest = {0, 0, 0, 100000, 110001};
        WindowMill z = Check.mill(Check.SLIDING, 10000, 9999, Check.HOW_MANY, 0, 1);
        z.event(0, 0, 0, 0);
        int[] least = {0, 0, 0, -9999, 1};
        for (int what = 0; what <= 4; what++) {
            Check.due("the greatest end: " + what, y.row(0, what), greatest[what]);
            Check.due("the least begin: " + what, z.row(0, what), least[what]);
        }
    }

    @Says(promise = 10, value = "NONE: there is no such row, what (an answer may be -1, too).")
    static void rowNone() {
        for (int i : new int[] {Check.MIN, -1, 2, 3, 1024, Check.MAX}) {
            for (int what = 0; what <= 4; what++) {
                Check.due("row(" + i + ", " + what + ")", withTwoRows().row(i, what), Check.NONE);
            }
        }
        for (int what : new int[] {Check.MIN, -1, 5, Check.MAX}) {
            Check.due("row(0, " + what + ")", withTwoRows().row(0, what), Check.NONE);
            Check.due("row(1, " + what + ")", withTwoRows().row(1, what), Check.NONE);
        }
        Check.due("-1 as an answer", withTwoRows().row(0, 3), -1);
        Check.due("the last row", withTwoRows().row(1, 4), 4);
        Check.due("a new object", new WindowMill().row(0, 0), Check.NONE);
    }

    @Says(promise = 11, value = "The SUM of ROW i; 0, if there is no such row.")
    static void sum() {
        WindowMill x = withTwoRows();
        Check.due("of row 0", x.sum(0), -5);
        Check.due("of row 1", x.sum(1), -5);
        for (int i : new int[] {Check.MIN, -1, 2, 3, 1024, Check.MAX}) {
            Check.due("sum(" + i + ")", x.sum(i), 0);
        }
        Check.due("a new object", new WindowMill().sum(0), 0);
        WindowMill y = Check.mill(Check.FIXED, 10, 0, Check.TOGETHER, 0, 1);
        y.event(0, 1, 1, 7);
        y.event(0, 1, 1, -3);
        Check.due("PUT", y.sum(0), 7);
        Check.due("BACK", y.sum(1), 7);
        Check.due("PUT again", y.sum(2), 4);
    }

    @Says(promise = 12, value = "How many rows of a stage are LEFT.")
    static void left() {
        WindowMill x = Check.mill(Check.FIXED, 10, 0, Check.HOW_MANY, 5, 2);
        x.stage(Check.SESSION, 10, 0);
        x.feed(1, 0);
        Check.due("at first", x.left(0), 0);
        x.event(0, 1, 9, 0);
        Check.due("not given yet", x.left(0), 0);
        x.event(0, 1, 9, 0);
        Check.due("early", x.left(0), 1);
        x.event(0, 1, 10, 0);
        x.mark(0, 20);
        Check.due("of stage 0", x.left(0), 2);
        Check.due("of stage 1", x.left(1), 0);
        x.mark(0, 21);
        Check.due("of stage 1 then", x.left(1), 1);
        x.mark(0, 100);
        Check.due("LET GO", x.left(0), 2);
        Check.due("LET GO, stage 1", x.left(1), 1);
    }

    @Says(promise = 12, value = "NONE, KIND.")
    static void leftRefused() {
        for (int stage : NO_STAGE) {
            Check.due("left(" + stage + ")", withTwoRows().left(stage), Check.NONE);
        }
        for (int kind = Check.KEEP; kind <= Check.SESSION; kind++) {
            Check.due("KIND " + kind, Check.mill(kind, 1, 1).left(0), kind < Check.FIXED ? Check.KIND : 0);
        }
    }

    @Says(promise = 13, value = "The number, as PUT, of the i-th of these.")
    static void leftRow() {
        WindowMill x = Check.mill(Check.FIXED, 10, 0, Check.HOW_MANY, 0, 1);
        int[][] events = {{5, 15}, {5, 5}, {1, 5}, {5, 5}, {1, 25}, {0, 95}, {1, 5}};
        for (int[] e : events) {
            x.event(0, e[0], e[1], 0);
        }
        // PUT were 0 to 3 but for the BACK 3, then 4, 5, 6, and 8 behind the BACK 7.
        int[] want = {6, 8, 5, 4, 0};
        Check.due("rows", x.rows(), 9);
        for (int i = 0; i < want.length; i++) {
            Check.due("leftRow(0, " + i + ")", x.leftRow(0, i), want[i]);
        }
        Check.dueLeft(x, 0, "+0 0 90..100 1", "+0 1 0..10 2", "+0 1 20..30 1", "+0 5 0..10 2", "+0 5 10..20 1");
    }

    @Says(promise = 13, value = "NONE (a stage of other KINDS, too).")
    static void leftRowNone() {
        WindowMill x = withTwoRows();
        for (int i : new int[] {Check.MIN, -1, 2, 3, Check.MAX}) {
            Check.due("leftRow(0, " + i + ")", x.leftRow(0, i), Check.NONE);
        }
        Check.due("the last one", x.leftRow(0, 1), 1);
        for (int stage : NO_STAGE) {
            Check.due("leftRow(" + stage + ", 0)", x.leftRow(stage, 0), Check.NONE);
        }
        for (int kind = Check.KEEP; kind <= Check.SESSION; kind++) {
            Check.due("KIND " + kind + " without a row", Check.mill(kind, 1, 1).leftRow(0, 0), Check.NONE);
        }
        // Between the windows of two that have rows there is one that has none yet.
        WindowMill y = Check.mill(Check.FIXED, 10, 0, Check.HOW_MANY, 0, 2);
        y.burst(0, 2001, 5, 0, 0);
        y.event(0, 1, 15, 0);
        y.burst(0, 2001, 25, 0, 0);
        y.event(0, 2, 5, 0);
        Check.dueLeft(y, 0, "+0 1 0..10 2", "+0 1 20..30 2");
    }

    private static void dueAbout(WindowMill x, int stage, int... want) {
        for (int what = 0; what <= 7; what++) {
            Check.due("about(" + stage + ", " + what + ")", x.about(stage, what), want[what]);
        }
    }

    @Says(promise = 14, value = {"Of a stage: 0 its KIND, 1 its MARK, 2 how many events came to it,",
        "3 how many were DROPPED (of KINDS 4, 5 once for each window),", "4 how many windows it has that are not LET GO,",
        "5 how many events there are in these, 6 how many feed it, 7 whether it is IDLE (1, 0)."})
    static void about() {
        WindowMill x = Check.mill(Check.SLIDING, 20, 5);
        dueAbout(x, 0, Check.SLIDING, 0, 0, 0, 0, 0, 1, 0);
        x.event(0, 1, 12, 0);
        x.event(0, 1, 13, 0);
        x.event(0, 2, 12, 0);
        dueAbout(x, 0, Check.SLIDING, 0, 3, 0, 8, 12, 1, 0);
        x.mark(0, 20);
        dueAbout(x, 0, Check.SLIDING, 20, 3, 0, 4, 6, 1, 0);
        x.event(0, 1, 1, 0);
        x.event(0, 1, 6, 0);
        x.idle(0, 1);
        dueAbout(x, 0, Check.SLIDING, 20, 5, 7, 4, 7, 1, 1);
        WindowMill y = Check.mill(Check.SESSION, 5, 0);
        y.feed(0, 7);
        y.idle(7, 1);
        y.mark(0, 30);
        for (int minute : new int[] {24, 25, 31, 28, 20, 40}) {
            y.event(0, 1, minute, 0);
        }
        dueAbout(y, 0, Check.SESSION, 30, 6, 2, 2, 4, 2, 0);
        WindowMill z = Check.mill(Check.KEEP, 5, 0);
        z.mark(0, 9);
        z.event(0, 0, 0, 0);
        dueAbout(z, 0, Check.KEEP, 9, 1, 0, 0, 0, 1, 0);
        z.stage(Check.FIXED, 1, 0);
        dueAbout(z, 1, Check.FIXED, 0, 0, 0, 0, 0, 0, 1);
    }

    @Says(promise = 14, value = "NONE.")
    static void aboutNone() {
        WindowMill x = withTwoRows();
        for (int what : new int[] {Check.MIN, -1, 8, Check.MAX}) {
            Check.due("about(0, " + what + ")", x.about(0, what), Check.NONE);
            Check.due("about(1, " + what + ")", x.about(1, what), Check.NONE);
        }
        for (int stage : NO_STAGE) {
            for (int what = 0; what <= 7; what++) {
                Check.due("about(" + stage + ", " + what + ")", x.about(stage, what), Check.NONE);
            }
        }
    }

    @Says(promise = 15, value = "The latest event that a stage of KINDS 0 to 3 gave on: 0 its KEY, 1 its MINUTE.")
    static void gave() {
        WindowMill x = Check.mill(Check.KEEP, 5, 0);
        x.stage(Check.KEYED, 10, 0);
        x.feed(1, 8);
        int[][] events = {{1, 10, 5}, {2, 20, 17}, {3, 30, 4}};
        for (int[] e : events) {
            x.event(0, e[0], e[1], e[2]);
        }
        Check.due("KEY of what was kept last", x.gave(0, 0), 2);
        Check.due("its MINUTE", x.gave(0, 1), 20);
        Check.due("KEY that it was given", x.gave(1, 0), 7);
        Check.due("its MINUTE", x.gave(1, 1), 20);
        x.event(0, 4, 0, 9);
        Check.due("the latest is not the one of the greatest MINUTE", x.gave(0, 1), 0);
        Check.due("nor of the greatest VALUE", x.gave(0, 0), 4);
        for (int kind = Check.KEEP; kind <= Check.KEYED; kind++) {
            WindowMill y = Check.mill(kind, 1000, 0);
            y.event(0, 0, 0, 2000);
            Check.due("KIND " + kind + ", KEY 0", y.gave(0, 0), 0);
            Check.due("KIND " + kind + ", MINUTE 0", y.gave(0, 1), 0);
        }
    }

    @Says(promise = 15, value = "NONE: no such stage, what; or it gave none.")
    static void gaveNone() {
        WindowMill x = withTwoRows();
        x.feed(1, 0);
        Check.due("none came", x.gave(1, 0), Check.NONE);
        x.event(0, 3, 4, 5);
        Check.due("one came", x.gave(1, 0), 3);
        for (int what : new int[] {Check.MIN, -1, 2, Check.MAX}) {
            Check.due("gave(1, " + what + ")", x.gave(1, what), Check.NONE);
        }
        for (int stage : NO_STAGE) {
            Check.due("gave(" + stage + ", 0)", x.gave(stage, 0), Check.NONE);
            Check.due("gave(" + stage + ", 1)", x.gave(stage, 1), Check.NONE);
        }
        Check.due("a SLIDING gives none", x.gave(0, 0), Check.NONE);
        WindowMill y = Check.mill(Check.KEEP, 5, 0);
        y.event(0, 3, 4, 4);
        Check.due("one came and was not given on: KEY", y.gave(0, 0), Check.NONE);
        Check.due("one came and was not given on: MINUTE", y.gave(0, 1), Check.NONE);
    }

    @Says(promise = 16, value = "Its VALUE; 0, if there is none such.")
    static void gaveValue() {
        WindowMill x = withTwoRows();
        x.stage(Check.KEEP, 5, 0);
        Check.feedAll(x, new int[][] {{1, 0}, {2, 9}});
        Check.due("none came", x.gaveValue(1), 0);
        x.event(0, 3, 4, 4);
        Check.due("of the MERGE", x.gaveValue(1), 4);
        Check.due("not given on", x.gaveValue(2), 0);
        x.event(0, 3, 4, 5);
        x.event(0, 3, 4, -6);
        Check.due("of the MERGE then", x.gaveValue(1), -6);
        Check.due("of the KEEP", x.gaveValue(2), 5);
        Check.due("of a SLIDING", x.gaveValue(0), 0);
        for (int stage : new int[] {Check.MIN, -1, 3, 15, 16, Check.MAX}) {
            Check.due("gaveValue(" + stage + ")", x.gaveValue(stage), 0);
        }
    }

    /** Rows that are early and no longer what their window says do not count before its end, nor do windows without one. */
    @Says(promise = 17, value = {"Of a stage of KINDS 4 to 6: for how many windows with an end of at most MARK,",
        "of a table of all events that came to it and were not DROPPED for them",
        "(of a SESSION: that were not DROPPED),", "there is no ROW LEFT, or one with another SUM.", "(0, as the rows are right.)"})
    static void apart() {
        for (int kind = Check.FIXED; kind <= Check.SESSION; kind++) {
            for (int sum = Check.HOW_MANY; sum <= Check.MIDDLE; sum++) {
                WindowMill x = Check.mill(kind, 10, 5, sum, 7, 2);
                Check.due("without an event", x.apart(0), 0);
                x.burst(0, 3001, 5, 0, 1);
                x.event(0, 2, 5, 0);
                Check.due("before the end", x.apart(0), 0);
                for (int mark = 9; mark <= 30; mark++) {
                    x.mark(0, mark);
                    Check.due("at " + mark, x.apart(0), 0);
                    x.burst(0, 3001, mark - 9, 2, mark);
                    Check.due("with late ones at " + mark, x.apart(0), 0);
                }
                x.mark(0, 200000);
                Check.due("when all is LET GO", x.apart(0), 0);
            }
        }
    }

    @Says(promise = 17, value = "NONE, KIND.")
    static void apartRefused() {
        for (int stage : NO_STAGE) {
            Check.due("apart(" + stage + ")", withTwoRows().apart(stage), Check.NONE);
        }
        for (int kind = Check.KEEP; kind <= Check.SESSION; kind++) {
            Check.due("KIND " + kind, Check.mill(kind, 1, 1).apart(0), kind < Check.FIXED ? Check.KIND : 0);
        }
    }

    @Says(promise = 18, value = "How many: 0 stages, 1 events told, 2 windows of all stages that are not LET GO.")
    static void count() {
        WindowMill x = Check.mill(Check.FIXED, 10, 0);
        x.stage(Check.SESSION, 3, 0);
        x.feed(1, 0);
        x.event(0, 1, 5, 0);
        x.event(0, 1, 15, 0);
        x.event(0, 1, 16, 0);
        x.event(7, 1, 16, 0);
        x.burst(7, 5000, 99998, 1, 0);
        Check.due("stages", x.count(0), 2);
        Check.due("events", x.count(1), 7);
        Check.due("windows", x.count(2), 4);
        x.mark(0, 10);
        Check.due("windows not LET GO at 10", x.count(2), 3);
        x.mark(0, 12);
        Check.due("windows not LET GO at 12", x.count(2), 2);
        WindowMill y = Check.merges(15);
        y.stage(Check.FIXED, 1, 0);
        y.feed(15, 0);
        y.event(0, 1, 1, 1);
        Check.due("16 stages", y.count(0), 16);
        Check.due("one window, of the last", y.count(2), 1);
    }

    @Says(promise = 18, value = "NONE: another what.")
    static void countNone() {
        for (int what : new int[] {Check.MIN, -1, 3, Check.MAX}) {
            Check.due("count(" + what + ")", withTwoRows().count(what), Check.NONE);
        }
    }

    @Says(promise = 19, value = "The MARK of a port.")
    static void markOf() {
        WindowMill x = withTwoRows();
        for (int port = 0; port <= 7; port++) {
            Check.due("at first, port " + port, x.markOf(port), port == 0 ? 4 : 0);
        }
        for (int port = 0; port <= 7; port++) {
            x.mark(port, 1000 * port + 4);
        }
        x.idle(3, 1);
        for (int port = 0; port <= 7; port++) {
            Check.due("port " + port, x.markOf(port), 1000 * port + 4);
        }
    }

    @Says(promise = 19, value = "NONE.")
    static void markOfNone() {
        for (int port : new int[] {Check.MIN, -1, 8, 16, Check.MAX}) {
            Check.due("markOf(" + port + ")", withTwoRows().markOf(port), Check.NONE);
        }
    }

    public static void main(String[] args) {
        Check.runAll(AskingTest.class);
    }
}
