/** "Terms", part 3: windows of a SESSION. */
public final class SessionsTest {
    @Says({"SESSION: its windows hold events of one KEY;",
        "first and last being their least and greatest MINUTE: begin is first, end is last + a + 1."})
    static void beginAndEnd() {
        for (int gap : new int[] {0, 1, 5, 10000}) {
            WindowMill x = Check.mill(Check.SESSION, gap, 0, Check.HOW_MANY, 0, 1);
            x.event(0, 1, 50000, 0);
            Check.dueText("of one event", Check.shown(x, 0), "+0 1 50000.." + (50000 + gap + 1) + " 1");
            x.event(0, 1, 50000 + gap, 0);
            Check.dueText("a later last", Check.shown(x, 2), "+0 1 50000.." + (50000 + 2 * gap + 1) + " 2");
            x.event(0, 1, 50000 - gap, 0);
            Check.dueText("an earlier first", Check.shown(x, 4),
                    "+0 1 " + (50000 - gap) + ".." + (50000 + 2 * gap + 1) + " 3");
            x.event(0, 1, 50000, 0);
            Check.dueText("one between", Check.shown(x, 6),
                    "+0 1 " + (50000 - gap) + ".." + (50000 + 2 * gap + 1) + " 4");
            x.event(0, 2, 50000, 0);
            Check.dueText("another KEY", Check.shown(x, 7), "+0 2 50000.." + (50000 + gap + 1) + " 1");
        }
        WindowMill y = Check.mill(Check.SESSION, 10000, 0, Check.HOW_MANY, 0, 1);
        y.event(0, 1, 0, 0);
        y.event(0, 1, 100000, 0);
        Check.dueRows(y, 0, "+0 1 0..10001 1", "+0 1 100000..110001 1");
    }

    @Says("An event with MINUTE + a + 1 + l at most MARK is DROPPED.")
    static void dropped() {
        for (int gap : new int[] {0, 1, 5, 10000}) {
            for (int late : new int[] {0, 1, 3, 100000}) {
                WindowMill x = Check.mill(Check.SESSION, gap, 0, Check.HOW_MANY, late, 0);
                x.mark(0, 100 + gap + 1 + late);
                x.event(0, 1, 99, 0);
                Check.due("one below", x.about(0, 3), 1);
                x.event(0, 1, 100, 0);
                Check.due("at it", x.about(0, 3), 2);
                Check.due("no window", x.about(0, 4), 0);
                x.event(0, 1, 101, 0);
                Check.due("one above", x.about(0, 3), 2);
                Check.due("a window", x.about(0, 4), 1);
                x.event(0, 1, 100, 0);
                Check.due("at it, though a window is near", x.about(0, 3), 3);
                Check.due("four came", x.about(0, 2), 4);
                Check.due("one is in a window", x.about(0, 5), 1);
            }
        }
    }

    @Says({"Else all windows of its KEY (not LET GO)",
        "with first - a at most its MINUTE, and that at most last + a, become one with it:"})
    static void becomeOne() {
        for (int gap : new int[] {0, 1, 5, 10000}) {
            int[][] due = {{-gap - 1, 2}, {-gap, 1}, {0, 1}, {4, 1}, {4 + gap, 1}, {4 + gap + 1, 2}};
            for (int[] d : due) {
                WindowMill x = Check.mill(Check.SESSION, gap, 0);
                for (int minute = 20000; minute <= 20004; minute++) {
                    x.event(0, 1, minute, 0);
                }
                int before = gap == 0 ? 5 : 1;
                Check.due("windows at first", x.about(0, 4), before);
                x.event(0, 1, 20000 + d[0], 0);
                Check.due("windows with one at " + d[0] + ", gap " + gap, x.about(0, 4), before + d[1] - 1);
                x.event(0, 2, 20000 + d[0], 0);
                Check.due("of another KEY", x.about(0, 4), before + d[1]);
                Check.due("events in them", x.about(0, 5), 7);
            }
        }
    }

    @Says({"Else all windows of its KEY (not LET GO)",
        "with first - a at most its MINUTE, and that at most last + a, become one with it:"})
    static void twoBecomeOne() {
        int[][] due = {{10, 20, 15, 1}, {10, 21, 15, 2}, {10, 21, 16, 2}, {10, 19, 15, 1}, {10, 16, 13, 1}, {9, 20, 15, 2}};
        for (int[] d : due) {
            WindowMill x = Check.mill(Check.SESSION, 5, 0);
            x.event(0, 1, d[1], 0);
            x.event(0, 1, 40, 0);
            x.event(0, 1, d[0], 0);
            x.event(0, 1, 0, 0);
            Check.due("apart at first", x.about(0, 4), 4);
            x.event(0, 1, d[2], 0);
            Check.due(d[0] + " and " + d[1] + " by " + d[2], x.about(0, 4), 2 + d[3]);
            Check.due("five events", x.about(0, 5), 5);
            x.mark(0, 200);
            Check.due("rows LEFT", x.left(0), 2 + d[3]);
            Check.due("apart", x.apart(0), 0);
        }
    }

    @Says({"Else all windows of its KEY (not LET GO)",
        "with first - a at most its MINUTE, and that at most last + a, become one with it:"})
    static void notWithOneLetGo() {
        WindowMill x = Check.mill(Check.SESSION, 5, 0, Check.HOW_MANY, 3, 0);
        x.event(0, 1, 50, 0);
        x.mark(0, 63);
        x.event(0, 1, 54, 0);
        Check.due("54 + 5 + 1 + 3 is 63: DROPPED", x.about(0, 3), 1);
        x.event(0, 1, 55, 0);
        Check.dueRows(x, 0, "+0 1 50..56 1", "-0 1 50..56 1", "+0 1 50..61 2");
        x.mark(0, 69);
        x.event(0, 1, 60, 0);
        Check.due("last + a is DROPPED", x.about(0, 3), 2);
        x.event(0, 1, 61, 0);
        Check.dueRows(x, 3, "+0 1 61..67 1");
        Check.dueLeft(x, 0, "+0 1 50..61 2", "+0 1 61..67 1");
    }

    @Says("of these, in order of begin, the ROWS (if they have any) are taken back;")
    static void rowsTakenBack() {
        WindowMill x = Check.mill(Check.SESSION, 5, 0, Check.TOGETHER, 100, 0);
        x.event(0, 1, 20, 2);
        x.event(0, 1, 10, 1);
        x.event(0, 1, 30, 4);
        x.mark(0, 26);
        Check.dueRows(x, 0, "+0 1 10..16 1", "+0 1 20..26 2");
        x.event(0, 1, 15, 8);
        Check.dueRows(x, 2, "-0 1 10..16 1", "-0 1 20..26 2", "+0 1 10..26 11");
        x.event(0, 1, 25, 16);
        Check.dueRows(x, 5, "-0 1 10..26 11", "+0 1 10..36 31");
        Check.dueLeft(x, 0, "+0 1 10..36 31");
    }

    /** The first of two has no row yet, and the second one has; then none of them has. */
    @Says("of these, in order of begin, the ROWS (if they have any) are taken back;")
    static void rowsOfSomeTakenBack() {
        WindowMill x = Check.mill(Check.SESSION, 5, 0, Check.HOW_MANY, 0, 2);
        x.event(0, 1, 20, 0);
        x.event(0, 1, 20, 0);
        x.event(0, 1, 10, 0);
        Check.dueRows(x, 0, "+0 1 20..26 2");
        x.event(0, 1, 15, 0);
        Check.dueRows(x, 1, "-0 1 20..26 2", "+0 1 10..26 4");
        x.event(0, 2, 10, 0);
        x.event(0, 2, 20, 0);
        x.event(0, 2, 15, 0);
        Check.due("none has a row, none is taken back", x.rows(), 3);
        Check.dueLeft(x, 0, "+0 1 10..26 4");
    }

    @Says("the new window has all their events, and it.")
    static void allTheirEvents() {
        long[] want = {8, 25, -4, 9, 7, 2};
        int[][] firsts = {{9, 2}, {7, 7, 3, -4, 1}};
        for (int turn = 0; turn <= 1; turn++) {
            for (int sum = Check.HOW_MANY; sum <= Check.MIDDLE; sum++) {
                WindowMill x = Check.mill(Check.SESSION, 5, 0, sum, 0, 0);
                for (int value : firsts[turn]) {
                    x.event(0, 3, 10, value);
                }
                for (int value : firsts[1 - turn]) {
                    x.event(0, 3, 20, value);
                }
                x.event(0, 3, 15, 0);
                Check.due("one window", x.about(0, 4), 1);
                Check.due("eight events", x.about(0, 5), 8);
                x.mark(0, 26);
                Check.due("SUM " + sum, x.sum(0), want[sum]);
                Check.due("one row", x.rows(), 1);
            }
        }
    }

    @Says("Then it GIVES its ROW if MARK is at least its end,")
    static void givesBehindItsEnd() {
        WindowMill x = Check.mill(Check.SESSION, 5, 0, Check.HOW_MANY, 20, 0);
        x.mark(0, 50);
        Check.due("end 51", x.event(0, 1, 45, 0), 0);
        Check.due("end 50", x.event(0, 2, 44, 0), 1);
        Check.due("end 49", x.event(0, 3, 43, 0), 2);
        Check.due("end 51 with an older one", x.event(0, 1, 40, 0), 2);
        Check.dueRows(x, 0, "+0 2 44..50 1", "+0 3 43..49 1");
        Check.due("51 comes", x.mark(0, 51), 3);
        Check.dueRows(x, 2, "+0 1 40..51 2");
    }

    @Says("or if one was taken back,")
    static void givesWhenOneWasTakenBack() {
        WindowMill x = Check.mill(Check.SESSION, 5, 0, Check.TOGETHER, 10, 0);
        x.event(0, 1, 10, 1);
        x.mark(0, 16);
        x.event(0, 1, 15, 2);
        Check.dueRows(x, 0, "+0 1 10..16 1", "-0 1 10..16 1", "+0 1 10..21 3");
        x.event(0, 1, 12, 4);
        Check.dueRows(x, 3, "-0 1 10..21 3", "+0 1 10..21 7");
        x.mark(0, 20);
        Check.due("it has not ended", x.rows(), 5);
        x.mark(0, 21);
        Check.dueRows(x, 5, "-0 1 10..21 7", "+0 1 10..21 7");
        x.event(0, 1, 8, 8);
        Check.dueRows(x, 7, "-0 1 10..21 7", "+0 1 8..21 15");
    }

    @Says("or by e as above.")
    static void givesEarly() {
        WindowMill x = Check.mill(Check.SESSION, 4, 0, Check.HOW_MANY, 0, 3);
        x.event(0, 1, 10, 0);
        x.event(0, 1, 16, 0);
        Check.due("two windows of one", x.rows(), 0);
        x.event(0, 1, 13, 0);
        Check.dueRows(x, 0, "+0 1 10..21 3");
        x.event(0, 2, 10, 0);
        x.event(0, 2, 10, 0);
        x.event(0, 2, 16, 0);
        Check.due("of two and one", x.rows(), 1);
        x.event(0, 2, 13, 0);
        Check.due("four are no multiple", x.rows(), 1);
        x.event(0, 2, 13, 0);
        Check.due("nor are five", x.rows(), 1);
        x.event(0, 2, 13, 0);
        Check.dueRows(x, 1, "+0 2 10..21 6");
        x.event(0, 3, 10, 0);
        Check.due("e does not count over KEYS", x.rows(), 2);
    }

    @Says({"When the MARK goes up: likewise,", "but a window is LET GO when last + 2 a + 1 + l is at most MARK."})
    static void letGo() {
        for (int gap : new int[] {0, 1, 5, 10000}) {
            for (int late : new int[] {0, 1, 3, 100000}) {
                WindowMill x = Check.mill(Check.SESSION, gap, 0, Check.HOW_MANY, late, 0);
                x.event(0, 1, 100, 0);
                x.event(0, 2, 100, 0);
                x.event(0, 2, 100, 0);
                x.event(0, 3, 101, 0);
                int at = 100 + 2 * gap + 1 + late;
                x.mark(0, at - 1);
                Check.due("one below", x.about(0, 4), 3);
                Check.due("events", x.about(0, 5), 4);
                x.mark(0, at);
                Check.due("at it", x.about(0, 4), 1);
                Check.due("events then", x.about(0, 5), 1);
                Check.due("of all stages", x.count(2), 1);
                x.mark(0, at + 2);
                Check.due("one above", x.about(0, 4), 0);
                String end = ".." + (100 + gap + 1);
                Check.dueLeft(x, 0, "+0 1 100" + end + " 1", "+0 2 100" + end + " 2", "+0 3 101.." + (101 + gap + 1) + " 1");
            }
        }
    }

    @Says({"When the MARK goes up: likewise,", "but a window is LET GO when last + 2 a + 1 + l is at most MARK."})
    static void markGoesUp() {
        WindowMill x = Check.mill(Check.SESSION, 5, 0, Check.HOW_MANY, 100, 0);
        x.event(0, 1, 10, 0);
        Check.due("to 15", x.mark(0, 15), 0);
        Check.due("to 16", x.mark(0, 16), 1);
        Check.due("to 17", x.mark(0, 17), 1);
        x.event(0, 1, 15, 0);
        Check.due("it grew, and its row with it", x.rows(), 3);
        Check.due("to 20", x.mark(0, 20), 3);
        Check.due("to 21: it ends once more", x.mark(0, 21), 5);
        Check.due("to 120", x.mark(0, 120), 5);
        Check.due("LET GO by its first last", x.about(0, 4), 1);
        Check.due("to 125", x.mark(0, 125), 5);
        Check.due("15 + 10 + 1 + 100 is 126", x.about(0, 4), 1);
        Check.due("to 126", x.mark(0, 126), 5);
        Check.due("LET GO", x.about(0, 4), 0);
        Check.dueLeft(x, 0, "+0 1 10..21 2");
    }

    /** Sessions told in no order become one by one greater; then each ends, and is LET GO, just once. */
    @Says({"When the MARK goes up: likewise,", "but a window is LET GO when last + 2 a + 1 + l is at most MARK."})
    static void manyThatGrew() {
        WindowMill x = Check.mill(Check.SESSION, 3, 0, Check.HOW_MANY, 0, 0);
        for (int i = 0; i < 60; i++) {
            x.event(0, 1, 5 * (i * 23 % 60), 0);
        }
        Check.due("five apart", x.about(0, 4), 60);
        for (int i = 0; i < 60; i++) {
            if (i % 6 != 5) {
                x.event(0, 1, 5 * i + 2, 0);
            }
        }
        Check.due("ten of six", x.about(0, 4), 10);
        Check.due("all their events", x.about(0, 5), 110);
        x.mark(0, 1000);
        Check.due("ten rows", x.rows(), 10);
        Check.due("all LET GO", x.about(0, 4), 0);
        Check.due("no event in windows", x.about(0, 5), 0);
        for (int i = 0; i < 10; i++) {
            Check.dueText("row " + i, Check.shown(x, i), "+0 1 " + 30 * i + ".." + (30 * i + 29) + " 11");
        }
    }

    public static void main(String[] args) {
        Check.runAll(SessionsTest.class);
    }
}
