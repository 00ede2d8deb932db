/** "Terms", part 3: windows. */
public final class WindowsTest {
    @Says({"WINDOWS.",
        "An event comes, for KINDS 4 and 5, to all windows [begin, end) with its MINUTE, the least begin first."})
    static void toAllWindowsWithItsMinute() {
        WindowMill x = Check.mill(Check.FIXED, 10, 0, Check.HOW_MANY, 0, 1);
        x.event(0, 1, 10, 0);
        x.event(0, 1, 19, 0);
        x.event(0, 1, 20, 0);
        x.event(0, 1, 9, 0);
        Check.dueRows(x, 0, "+0 1 10..20 1", "-0 1 10..20 1", "+0 1 10..20 2", "+0 1 20..30 1", "+0 1 0..10 1");
        WindowMill y = Check.mill(Check.SLIDING, 4, 1, Check.HOW_MANY, 0, 1);
        y.event(0, 8, 3, 0);
        Check.dueRows(y, 0, "+0 8 0..4 1", "+0 8 1..5 1", "+0 8 2..6 1", "+0 8 3..7 1");
        y.event(0, 8, 4, 0);
        Check.dueRows(y, 4, "-0 8 1..5 1", "+0 8 1..5 2", "-0 8 2..6 1", "+0 8 2..6 2", "-0 8 3..7 1", "+0 8 3..7 2",
                "+0 8 4..8 1");
        y.event(0, 8, 1, 0);
        Check.dueRows(y, 11, "+0 8 -2..2 1", "+0 8 -1..3 1", "-0 8 0..4 1", "+0 8 0..4 2", "-0 8 1..5 2", "+0 8 1..5 3");
    }

    @Says("Of each: if the stage's MARK is at least end and l together, it is DROPPED for this window;")
    static void dropped() {
        for (int late : new int[] {0, 1, 5, 100000}) {
            WindowMill x = Check.mill(Check.FIXED, 10, 0, Check.HOW_MANY, late, 0);
            x.mark(0, 19 + late);
            x.event(0, 1, 10, 0);
            x.event(0, 1, 19, 0);
            Check.due("MARK one below: DROPPED", x.about(0, 3), 0);
            Check.due("in the window", x.about(0, 5), 2);
            x.mark(0, 20 + late);
            x.event(0, 1, 19, 0);
            Check.due("MARK at end and l: DROPPED", x.about(0, 3), 1);
            x.event(0, 1, 10, 0);
            Check.due("and again", x.about(0, 3), 2);
            x.event(0, 1, 20, 0);
            Check.due("the next window takes", x.about(0, 5), 1);
            x.mark(0, 31 + late);
            x.event(0, 1, 29, 0);
            Check.due("MARK one above: DROPPED", x.about(0, 3), 3);
            Check.due("all came", x.about(0, 2), 6);
        }
    }

    @Says("Of each: if the stage's MARK is at least end and l together, it is DROPPED for this window;")
    static void droppedForSomeWindows() {
        WindowMill x = Check.mill(Check.SLIDING, 20, 5, Check.HOW_MANY, 2, 0);
        x.mark(0, 26);
        x.event(0, 1, 12, 0);
        Check.due("windows end at 15, 20, 25 and 30", x.about(0, 3), 2);
        Check.due("in two", x.about(0, 4), 2);
        Check.dueRows(x, 0, "+0 1 5..25 1");
        x.mark(0, 27);
        x.event(0, 1, 12, 0);
        Check.due("now three more", x.about(0, 3), 5);
        x.event(0, 1, 2, 0);
        Check.due("and all four of an old one", x.about(0, 3), 9);
        Check.due("three came", x.about(0, 2), 3);
    }

    @Says("else it is in the window of its KEY,")
    static void ofItsKey() {
        for (int kind = Check.FIXED; kind <= Check.SLIDING; kind++) {
            WindowMill x = Check.mill(kind, 10, 10, Check.TOGETHER, 0, 0);
            x.event(0, 0, 5, 1);
            x.event(0, 999, 5, 2);
            x.event(0, 0, 5, 4);
            x.event(0, 1, 5, 8);
            Check.due("windows", x.about(0, 4), 3);
            Check.due("events in them", x.about(0, 5), 4);
            x.mark(0, 10);
            Check.dueRows(x, 0, "+0 0 0..10 5", "+0 1 0..10 8", "+0 999 0..10 2");
        }
    }

    @Says("and the window GIVES its ROW if MARK is at least its end,")
    static void givesBehindItsEnd() {
        for (int kind = Check.FIXED; kind <= Check.SLIDING; kind++) {
            WindowMill x = Check.mill(kind, 10, 10, Check.TOGETHER, 20, 0);
            x.mark(0, 19);
            Check.due("MARK one below its end", x.event(0, 1, 15, 1), 0);
            x.mark(0, 20);
            Check.dueRows(x, 0, "+0 1 10..20 1");
            Check.due("MARK at its end", x.event(0, 1, 15, 2), 3);
            Check.due("of another KEY", x.event(0, 2, 15, 4), 4);
            x.mark(0, 21);
            Check.due("MARK one above", x.event(0, 1, 15, 8), 6);
            Check.dueRows(x, 1, "-0 1 10..20 1", "+0 1 10..20 3", "+0 2 10..20 4", "-0 1 10..20 3", "+0 1 10..20 11");
        }
    }

    @Says("or if e is above 0 and how many events it has then is a multiple of e.")
    static void givesEarly() {
        for (int kind = Check.FIXED; kind <= Check.SLIDING; kind++) {
            for (int e = 0; e <= 4; e++) {
                WindowMill x = Check.mill(kind, 10, 10, Check.HOW_MANY, 0, e);
                for (int n = 1; n <= 13; n++) {
                    int puts = e == 0 ? 0 : n / e;
                    Check.due("rows of " + n + ", e being " + e, x.event(0, 1, 5, 0), Math.max(0, 2 * puts - 1));
                    Check.due("the SUM that is LEFT", x.sum(x.leftRow(0, 0)), puts * e);
                }
                int before = x.rows();
                Check.due("the first of another KEY", x.event(0, 2, 5, 0), before + (e == 1 ? 1 : 0));
                Check.due("the first of another window", x.event(0, 1, 15, 0), before + (e == 1 ? 2 : 0));
            }
        }
    }

    @Says("or if e is above 0 and how many events it has then is a multiple of e.")
    static void givesEarlyByWindow() {
        WindowMill x = Check.mill(Check.SLIDING, 10, 5, Check.HOW_MANY, 0, 2);
        x.event(0, 1, 7, 0);
        x.event(0, 1, 12, 0);
        Check.dueRows(x, 0, "+0 1 5..15 2");
        x.event(0, 1, 2, 0);
        Check.dueRows(x, 1, "+0 1 0..10 2");
        x.mark(0, 10);
        Check.dueRows(x, 2, "+0 1 -5..5 1", "-0 1 0..10 2", "+0 1 0..10 2");
    }

    @Says({"GIVES its ROW: if it has one, that is taken back (BACK); then a new one is PUT, with KEY, begin, end, and its SUM.",
        "(Also if it is the same as before.)"})
    static void givesItsRow() {
        WindowMill x = Check.mill(Check.FIXED, 10, 0, Check.LEAST, 10, 2);
        x.event(0, 1, 11, 5);
        x.event(0, 1, 12, 6);
        Check.dueRows(x, 0, "+0 1 10..20 5");
        x.event(0, 1, 13, 7);
        x.event(0, 1, 14, 4);
        Check.dueRows(x, 1, "-0 1 10..20 5", "+0 1 10..20 4");
        x.mark(0, 20);
        Check.dueRows(x, 3, "-0 1 10..20 4", "+0 1 10..20 4");
        x.event(0, 1, 15, 9);
        Check.dueRows(x, 5, "-0 1 10..20 4", "+0 1 10..20 4");
        Check.dueLeft(x, 0, "+0 1 10..20 4");
    }

    @Says({"When the MARK of a stage goes up:", "for all its windows whose end is more than it was and at most what it is,"})
    static void markGoesUp() {
        WindowMill x = Check.mill(Check.FIXED, 10, 0, Check.HOW_MANY, 100, 0);
        for (int minute = 5; minute <= 45; minute += 10) {
            x.event(0, 1, minute, 0);
        }
        Check.due("to 9", x.mark(0, 9), 0);
        Check.due("to 10", x.mark(0, 10), 1);
        Check.due("still 10", x.mark(0, 10), 1);
        Check.due("to 11: what ended at 10 gives no more", x.mark(0, 11), 1);
        Check.due("to 19", x.mark(0, 19), 1);
        Check.due("to 40: three at once", x.mark(0, 40), 4);
        Check.due("to 49", x.mark(0, 49), 4);
        Check.due("to 51", x.mark(0, 51), 5);
        Check.due("to 200000", x.mark(0, 200000), 5);
        Check.dueRows(x, 0, "+0 1 0..10 1", "+0 1 10..20 1", "+0 1 20..30 1", "+0 1 30..40 1", "+0 1 40..50 1");
    }

    @Says("in order of end, then begin, then KEY: each GIVES its ROW;")
    static void orderOfRows() {
        WindowMill x = Check.mill(Check.SLIDING, 10, 5, Check.TOGETHER, 0, 0);
        x.event(0, 7, 12, 1);
        x.event(0, 3, 12, 2);
        x.event(0, 5, 2, 4);
        x.event(0, 9, 7, 8);
        x.mark(0, 30);
        Check.dueRows(x, 0, "+0 5 -5..5 4", "+0 5 0..10 4", "+0 9 0..10 8", "+0 3 5..15 2", "+0 7 5..15 1", "+0 9 5..15 8",
                "+0 3 10..20 2", "+0 7 10..20 1");
        WindowMill y = Check.mill(Check.SESSION, 2, 0, Check.TOGETHER, 0, 0);
        int[][] events = {{9, 6}, {1, 6}, {5, 1}, {5, 3}, {5, 5}, {5, 6}, {7, 5}, {7, 6}, {2, 8}, {3, 4}};
        for (int[] e : events) {
            y.event(0, e[0], e[1], 1);
        }
        y.mark(0, 100);
        Check.dueRows(y, 0, "+0 3 4..7 1", "+0 5 1..9 4", "+0 7 5..9 2", "+0 1 6..9 1", "+0 9 6..9 1", "+0 2 8..11 1");
    }

    /** Windows made in no order at all, more of them than any small store holds. */
    @Says("in order of end, then begin, then KEY: each GIVES its ROW;")
    static void orderOfManyRows() {
        for (int step : new int[] {1, 7, 23, 38, 60}) {
            WindowMill x = Check.mill(Check.FIXED, 10, 0);
            for (int i = 0; i < 61; i++) {
                int at = i * step % 61;
                x.event(0, 500 - at % 2, 10 * (at / 2), 0);
            }
            Check.due("half of them", x.mark(0, 150), 30);
            Check.due("all of them", x.mark(0, 400), 61);
            for (int i = 0; i < 61; i++) {
                // Where only one of two KEYS came, at the very end, it is 500.
                int key = i == 60 ? 500 : 499 + i % 2;
                Check.dueText("row " + i, Check.shown(x, i),
                        "+0 " + key + " " + 10 * (i / 2) + ".." + (10 * (i / 2) + 10) + " 1");
            }
        }
    }

    @Says("then all windows whose end and l together are at most MARK are LET GO (their rows stay).")
    static void letGo() {
        for (int kind = Check.FIXED; kind <= Check.SLIDING; kind++) {
            for (int late : new int[] {0, 1, 5, 100000}) {
                WindowMill x = Check.mill(kind, 10, 10, Check.HOW_MANY, late, 0);
                x.event(0, 1, 5, 0);
                x.event(0, 2, 5, 0);
                x.event(0, 1, 15, 0);
                x.mark(0, 9 + late);
                Check.due("one below end and l", x.about(0, 4), 3);
                x.mark(0, 10 + late);
                Check.due("at end and l", x.about(0, 4), 1);
                Check.due("their events", x.about(0, 5), 1);
                Check.due("of all stages", x.count(2), 1);
                x.mark(0, 21 + late);
                Check.due("one above end and l", x.about(0, 4), 0);
                Check.due("no row more", x.rows(), 3);
                Check.dueLeft(x, 0, "+0 1 0..10 1", "+0 1 10..20 1", "+0 2 0..10 1");
            }
        }
    }

    @Says("then all windows whose end and l together are at most MARK are LET GO (their rows stay).")
    static void givesAndIsLetGoAtOnce() {
        WindowMill x = Check.mill(Check.FIXED, 10, 0, Check.HOW_MANY, 5, 0);
        x.event(0, 1, 5, 0);
        Check.due("the row comes", x.mark(0, 100), 1);
        Check.due("and it is LET GO", x.about(0, 4), 0);
        x.event(0, 1, 5, 0);
        Check.due("what comes then is DROPPED", x.about(0, 3), 1);
        Check.dueLeft(x, 0, "+0 1 0..10 1");
    }

    /** Taken by a late event, a window is LET GO by its own end and l, and not before. */
    @Says("then all windows whose end and l together are at most MARK are LET GO (their rows stay).")
    static void lateWindowsAreLetGo() {
        WindowMill x = Check.mill(Check.FIXED, 10, 0, Check.HOW_MANY, 50, 0);
        x.mark(0, 40);
        for (int minute : new int[] {35, 5, 25, 15}) {
            x.event(0, 1, minute, 0);
        }
        Check.due("late ones", x.about(0, 4), 4);
        for (int ended = 1; ended <= 4; ended++) {
            x.mark(0, 49 + 10 * ended);
            Check.due("one below", x.about(0, 4), 5 - ended);
            x.mark(0, 50 + 10 * ended);
            Check.due("at it", x.about(0, 4), 4 - ended);
        }
        Check.due("their rows stay", x.left(0), 4);
    }

    public static void main(String[] args) {
        Check.runAll(WindowsTest.class);
    }
}
