/** Promises 9 to 13 and 17, rows, row, sum, left, leftRow, apart, and what "Terms" says of windows. */
public final class WindowsTest {
    private static void rowsAndWrongNumbers() {
        WindowMill x = Check.mill(Check.SLIDING, 4, 1, Check.GREATEST, 0, 0);
        x.event(0, 8, 2, -5);
        x.mark(0, 4);
        Check.dueRows("rows", x, 0, "+0 8 -1..3 -5", "+0 8 0..4 -5");
        Check.due("row: -1 is an answer too", x.row(0, 3), -1);
        for (int i : new int[] {-1, 2, Check.MIN, Check.MAX}) {
            Check.due("row(" + i + ", 0)", x.row(i, 0), -1);
            Check.due("sum(" + i + ")", x.sum(i), 0);
            Check.due("leftRow(0, " + i + ")", x.leftRow(0, i), -1);
        }
        for (int what : new int[] {-1, 5, Check.MIN, Check.MAX}) {
            Check.due("row(0, " + what + ")", x.row(0, what), -1);
        }
        x.stage(Check.MERGE, 0, 0);
        Check.due("left: a MERGE", x.left(1), -2);
        Check.due("apart: a MERGE", x.apart(1), -2);
        Check.due("leftRow: a MERGE", x.leftRow(1, 0), -1);
        for (int stage : new int[] {-1, 2, Check.MIN, Check.MAX}) {
            Check.due("left(" + stage + ")", x.left(stage), -1);
            Check.due("leftRow(" + stage + ", 0)", x.leftRow(stage, 0), -1);
            Check.due("apart(" + stage + ")", x.apart(stage), -1);
        }
    }

    private static void fixed() {
        WindowMill x = Check.mill(Check.FIXED, 10, 0, Check.TOGETHER, 5, 0);
        x.event(0, 2, 9, 1);
        x.event(0, 1, 10, 2);
        x.event(0, 1, 0, 3);
        x.event(0, 1, 19, 4);
        x.mark(0, 19);
        Check.dueRows("fixed: only those that ended", x, 0, "+0 1 0..10 3", "+0 2 0..10 1");
        Check.due("fixed: LET GO at 15", x.count(2), 1);
        Check.due("fixed: and their events", x.about(0, 5), 2);
        x.event(0, 1, 9, 7);
        Check.due("fixed: DROPPED", x.about(0, 3), 1);
        x.mark(0, 24);
        x.event(0, 1, 15, 8);
        x.event(0, 3, 15, 9);
        Check.dueRows("fixed: late ones", x, 2, "+0 1 10..20 6", "-0 1 10..20 6", "+0 1 10..20 14", "+0 3 10..20 9");
        Check.due("fixed: not LET GO at 24", x.count(2), 2);
        x.mark(0, 25);
        Check.due("fixed: LET GO at 25", x.count(2), 0);
        x.event(0, 3, 19, 9);
        Check.due("fixed: DROPPED at 25", x.about(0, 3), 2);
        Check.dueLeft("fixed", x, 0, "+0 1 0..10 3", "+0 1 10..20 14", "+0 2 0..10 1", "+0 3 10..20 9");
    }

    private static void oneMinuteAndTheLatest() {
        WindowMill x = Check.mill(Check.FIXED, 1, 0, Check.HOW_MANY, 100000, 0);
        x.event(0, 0, 0, 0);
        x.event(0, 0, 100000, 0);
        x.mark(0, 1);
        Check.dueRows("fixed: of one minute", x, 0, "+0 0 0..1 1");
        x.mark(0, 100000);
        Check.due("fixed: still one row", x.rows(), 1);
        Check.due("fixed: none LET GO", x.count(2), 2);
        x.mark(0, 100001);
        Check.dueRows("fixed: the last minute", x, 1, "+0 0 100000..100001 1");
        Check.due("fixed: the first LET GO", x.count(2), 1);
        x.mark(0, 200000);
        Check.due("fixed: the last is not", x.count(2), 1);
    }

    private static void sliding() {
        WindowMill x = Check.mill(Check.SLIDING, 7, 3, Check.MIDDLE, 0, 0);
        x.event(0, 5, 0, 10);
        x.event(0, 5, 3, 20);
        x.event(0, 5, 6, 30);
        Check.due("sliding: -6 -3 0 3 6", x.count(2), 5);
        Check.due("sliding: three events, three times each", x.about(0, 5), 9);
        x.mark(0, 5);
        Check.dueRows("sliding: below 0", x, 0, "+0 5 -6..1 10", "+0 5 -3..4 10");
        x.mark(0, 7);
        Check.dueRows("sliding: three", x, 2, "+0 5 0..7 20");
        x.event(0, 4, 4, 1);
        Check.due("sliding: DROPPED for one window only", x.about(0, 3), 1);
        Check.due("sliding: in the other", x.about(0, 4), 3);
        x.mark(0, 200000);
        Check.dueLeft("sliding", x, 0, "+0 4 3..10 1", "+0 5 -6..1 10", "+0 5 -3..4 10", "+0 5 0..7 20",
                "+0 5 3..10 20", "+0 5 6..13 30");
    }

    private static void orderOfMarks() {
        WindowMill x = Check.mill(Check.SESSION, 2, 0, Check.TOGETHER, 0, 0);
        x.event(0, 9, 6, 1);
        x.event(0, 1, 6, 2);
        x.event(0, 5, 1, 3);
        x.event(0, 5, 3, 3);
        x.event(0, 5, 5, 3);
        x.event(0, 5, 6, 3);
        x.event(0, 2, 8, 4);
        x.event(0, 3, 4, 5);
        x.mark(0, 100);
        Check.dueRows("order: end, begin, KEY", x, 0, "+0 3 4..7 5", "+0 5 1..9 12", "+0 1 6..9 2", "+0 9 6..9 1",
                "+0 2 8..11 4");
        Check.dueLeft("order: KEY, begin", x, 0, "+0 1 6..9 2", "+0 2 8..11 4", "+0 3 4..7 5", "+0 5 1..9 12",
                "+0 9 6..9 1");
    }

    private static void orderOfStages() {
        WindowMill x = new WindowMill();
        x.stage(Check.FIXED, 20, 0);
        x.stage(Check.FIXED, 10, 0);
        x.feed(1, 0);
        x.feed(0, 0);
        x.event(0, 1, 5, 0);
        x.mark(0, 20);
        Check.dueRows("order: stages rise", x, 0, "+0 1 0..20 1", "+1 1 0..10 1");
    }

    private static void early() {
        WindowMill x = Check.mill(Check.FIXED, 10, 0, Check.LEAST, 10, 2);
        x.event(0, 1, 1, 5);
        x.event(0, 1, 2, 6);
        x.event(0, 1, 3, 7);
        x.event(0, 1, 4, 4);
        Check.dueRows("early: each second one", x, 0, "+0 1 0..10 5", "-0 1 0..10 5", "+0 1 0..10 4");
        x.mark(0, 10);
        Check.dueRows("early: the end gives it again", x, 3, "-0 1 0..10 4", "+0 1 0..10 4");
        x.event(0, 1, 5, 9);
        Check.dueRows("early: behind the end each one", x, 5, "-0 1 0..10 4", "+0 1 0..10 4");
        Check.dueLeft("early", x, 0, "+0 1 0..10 4");
        WindowMill y = Check.mill(Check.SESSION, 4, 0, Check.HOW_MANY, 0, 3);
        y.event(0, 1, 10, 0);
        y.event(0, 1, 16, 0);
        Check.due("early: no row yet", y.rows(), 0);
        y.event(0, 1, 13, 0);
        Check.dueRows("early: three in one", y, 0, "+0 1 10..21 3");
        y.event(0, 1, 20, 0);
        Check.dueRows("early: one was taken back", y, 1, "-0 1 10..21 3", "+0 1 10..25 4");
    }

    private static void sums() {
        int[] values = {5, -2, 5, 1, -9, -2, 7};
        long[] ofSix = {6, -2, -9, 5, 4, -2};
        long[] ofSeven = {7, 5, -9, 7, 5, 1};
        for (int sum = Check.HOW_MANY; sum <= Check.MIDDLE; sum++) {
            for (int kind = Check.FIXED; kind <= Check.SESSION; kind++) {
                WindowMill x = Check.mill(kind, 10, 10, sum, 1000, 6);
                for (int i = 0; i < 6; i++) {
                    x.event(0, 3, 4, values[i]);
                }
                Check.due("sum " + sum + " of six, kind " + kind, x.sum(0), ofSix[sum]);
                x.event(0, 3, 4, values[6]);
                x.mark(0, 20);
                Check.due("sum " + sum + " of six taken back, kind " + kind, x.row(1, 0), 1);
                Check.due("sum " + sum + " of the row taken back, kind " + kind, x.sum(1), ofSix[sum]);
                Check.due("sum " + sum + " of seven, kind " + kind, x.sum(x.leftRow(0, 0)), ofSeven[sum]);
                Check.due("sum " + sum + ": one row LEFT", x.left(0), 1);
                Check.due("sum " + sum + ": apart", x.apart(0), 0);
            }
        }
    }

    private static void sumsWrap() {
        WindowMill x = new WindowMill();
        x.stage(Check.MAP, Check.MIN, 0);
        x.stage(Check.MAP, Check.MIN, 0);
        x.stage(Check.FIXED, 10, 0);
        x.window(2, Check.TOGETHER, 0, 2);
        x.feed(0, 0);
        x.feed(1, 8);
        x.feed(2, 9);
        x.event(0, 0, 0, 1);
        x.event(0, 0, 0, 1);
        Check.due("sum: wraps", x.sum(0), 1L << 63);
    }

    /** Sums of windows that become one: the shorter, and the longer, ahead. */
    private static void sumsOfJoined() {
        long[] want = {8, 25, -4, 9, 7, 2};
        int[][] firsts = {{9, 2}, {7, 7, 3, -4, 1}};
        for (int turn = 0; turn <= 1; turn++) {
            for (int sum = Check.HOW_MANY; sum <= Check.MIDDLE; sum++) {
                WindowMill x = Check.mill(Check.SESSION, 5, 0, sum, 0, 0);
                for (int value : firsts[turn]) {
                    x.event(0, 3, 10, value);
                }
                for (int value : firsts[1 - turn]) {
                    x.event(0, 3, 20, value);
                }
                x.event(0, 3, 15, 0);
                Check.due("joined: one window", x.about(0, 4), 1);
                Check.due("joined: eight events", x.about(0, 5), 8);
                x.mark(0, 26);
                Check.due("joined: sum " + sum, x.sum(0), want[sum]);
            }
        }
    }

    private static void sessionGap() {
        WindowMill x = Check.mill(Check.SESSION, 5, 0, Check.HOW_MANY, 0, 0);
        x.event(0, 1, 20, 0);
        x.event(0, 1, 26, 0);
        Check.due("session: six apart are two", x.about(0, 4), 2);
        x.event(0, 1, 14, 0);
        Check.due("session: likewise ahead", x.about(0, 4), 3);
        x.event(0, 1, 9, 0);
        Check.due("session: five apart are one", x.about(0, 4), 3);
        x.event(0, 2, 21, 0);
        Check.due("session: another KEY", x.about(0, 4), 4);
        x.event(0, 1, 21, 0);
        Check.due("session: two become one", x.about(0, 4), 3);
        x.event(0, 1, 17, 0);
        Check.due("session: and all", x.about(0, 4), 2);
        x.mark(0, 1000);
        Check.dueLeft("session", x, 0, "+0 1 9..32 6", "+0 2 21..27 1");
    }

    private static void sessionWithoutGap() {
        WindowMill x = Check.mill(Check.SESSION, 0, 0, Check.TOGETHER, 0, 0);
        x.event(0, 1, 5, 1);
        x.event(0, 1, 6, 2);
        x.event(0, 1, 5, 4);
        x.mark(0, 6);
        Check.dueRows("session: of one minute", x, 0, "+0 1 5..6 5");
        Check.due("session: LET GO at once", x.about(0, 4), 1);
        x.event(0, 1, 5, 4);
        Check.due("session: DROPPED", x.about(0, 3), 1);
        x.mark(0, 7);
        Check.dueLeft("session: gap 0", x, 0, "+0 1 5..6 5", "+0 1 6..7 2");
    }

    private static void sessionRowsTakenBack() {
        WindowMill x = Check.mill(Check.SESSION, 5, 0, Check.TOGETHER, 100, 0);
        x.event(0, 1, 10, 1);
        x.event(0, 1, 20, 2);
        x.event(0, 1, 30, 4);
        x.mark(0, 26);
        Check.dueRows("back: two rows", x, 0, "+0 1 10..16 1", "+0 1 20..26 2");
        x.event(0, 1, 15, 8);
        Check.dueRows("back: in order of begin", x, 2, "-0 1 10..16 1", "-0 1 20..26 2", "+0 1 10..26 11");
        x.event(0, 1, 25, 16);
        Check.dueRows("back: given though it has not ended", x, 5, "-0 1 10..26 11", "+0 1 10..36 31");
        x.event(0, 1, 12, 32);
        Check.dueRows("back: and given again", x, 7, "-0 1 10..36 31", "+0 1 10..36 63");
        x.mark(0, 36);
        Check.dueRows("back: at its end", x, 9, "-0 1 10..36 63", "+0 1 10..36 63");
        x.event(0, 1, 5, 64);
        Check.dueRows("back: an earlier begin", x, 11, "-0 1 10..36 63", "+0 1 5..36 127");
        Check.due("back: one window", x.count(2), 1);
        Check.dueLeft("back", x, 0, "+0 1 5..36 127");
        x.mark(0, 140);
        Check.due("back: not LET GO at 140", x.count(2), 1);
        x.mark(0, 141);
        Check.due("back: LET GO at 30 + 10 + 1 + 100", x.count(2), 0);
        Check.due("back: no row comes of it", x.rows(), 13);
    }

    private static void sessionLate() {
        WindowMill x = Check.mill(Check.SESSION, 5, 0, Check.HOW_MANY, 3, 0);
        x.mark(0, 50);
        x.event(0, 1, 41, 0);
        Check.due("late: 41 + 5 + 1 + 3 is 50", x.about(0, 3), 1);
        x.event(0, 1, 42, 0);
        Check.dueRows("late: given at once", x, 0, "+0 1 42..48 1");
        x.event(0, 1, 45, 0);
        Check.dueRows("late: and again", x, 1, "-0 1 42..48 1", "+0 1 42..51 2");
        x.event(0, 1, 41, 0);
        Check.due("late: DROPPED, though a window is near", x.about(0, 3), 2);
        x.mark(0, 58);
        Check.dueRows("late: at its end", x, 3, "-0 1 42..51 2", "+0 1 42..51 2");
        Check.due("late: not LET GO at 58", x.about(0, 5), 2);
        x.event(0, 1, 50, 0);
        Check.dueRows("late: the last that joins", x, 5, "-0 1 42..51 2", "+0 1 42..56 3");
        x.mark(0, 63);
        Check.due("late: not LET GO at 63", x.about(0, 4), 1);
        x.mark(0, 64);
        Check.due("late: LET GO at 50 + 10 + 1 + 3", x.about(0, 4), 0);
        x.event(0, 1, 56, 0);
        Check.dueLeft("late: a new one behind it", x, 0, "+0 1 42..56 3", "+0 1 56..62 1");
    }

    public static void main(String[] args) {
        rowsAndWrongNumbers();
        fixed();
        oneMinuteAndTheLatest();
        sliding();
        orderOfMarks();
        orderOfStages();
        early();
        sums();
        sumsWrap();
        sumsOfJoined();
        sessionGap();
        sessionWithoutGap();
        sessionRowsTakenBack();
        sessionLate();
        Check.end("WindowsTest");
    }
}
