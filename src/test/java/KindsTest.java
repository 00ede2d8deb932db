/** "Terms", part 2: the kinds of stages, and what may be told of windows. */
public final class KindsTest {
    private static final int[] ANY = {Check.MIN, -1, 0, 1, 1001, Check.MAX};

    private static boolean isMade(int kind, int a, int b) {
        int answer = new WindowMill().stage(kind, a, b);
        Check.due("stage(" + kind + ", " + a + ", " + b + ") is 0 or NONE", answer == 0 || answer == Check.NONE ? 1 : 0, 1);
        return answer == 0;
    }

    private static void dueMade(int kind, int a, int b, boolean want) {
        Check.due("stage(" + kind + ", " + a + ", " + b + ") is made", isMade(kind, a, b) ? 1 : 0, want ? 1 : 0);
    }

    private static void dueKept(int a, int b, long value, boolean want) {
        WindowMill x = millOf(value);
        int keep = x.stage(Check.KEEP, a, b);
        x.feed(keep, 8 + keep - 1);
        x.event(0, 3, 4, 1);
        Check.due("KEEP(" + a + ", " + b + ") of " + value, x.gave(keep, 0), want ? 3 : Check.NONE);
        Check.due("what came", x.about(keep, 2), 1);
        Check.due("its VALUE", x.gaveValue(keep), want ? value : 0);
    }

    /** A mill whose last stage gives on a VALUE 1 as this long: its two halves, and a quarter at a time between. */
    private static WindowMill millOf(long value) {
        WindowMill x = Check.mill(Check.MAP, 0, (int) (value >> 32));
        int low = (int) value;
        int[][] times = {{1 << 16, low >>> 16}, {1 << 16, low & 0xffff}};
        for (int[] t : times) {
            int s = x.stage(Check.MAP, t[0], t[1]);
            x.feed(s, 8 + s - 1);
        }
        return x;
    }

    @Says({"KINDS of stages, a and b being their numbers:", "0 KEEP (b: 0 .. 1000; a: any):"})
    static void keepNumbers() {
        for (int a : ANY) {
            dueMade(Check.KEEP, a, -1, false);
            dueMade(Check.KEEP, a, 0, true);
            dueMade(Check.KEEP, a, 1, true);
            dueMade(Check.KEEP, a, 999, true);
            dueMade(Check.KEEP, a, 1000, true);
            dueMade(Check.KEEP, a, 1001, false);
            dueMade(Check.KEEP, a, Check.MIN, false);
            dueMade(Check.KEEP, a, Check.MAX, false);
        }
    }

    @Says("gives on what has a VALUE that is at least a, if b is 0;")
    static void keepAtLeast() {
        for (int a : new int[] {Check.MIN, -7, 0, 7, Check.MAX}) {
            dueKept(a, 0, a - 1L, false);
            dueKept(a, 0, a, true);
            dueKept(a, 0, a + 1L, true);
            dueKept(a, 0, Long.MIN_VALUE, false);
            dueKept(a, 0, Long.MAX_VALUE, true);
        }
    }

    @Says({"else what has a VALUE that leaves, by b, the rest a", "(rests are 0 .. b - 1, as of division downwards)."})
    static void keepRest() {
        for (long value = -7; value <= 7; value++) {
            long rest = (value + 9) % 3;
            for (int a = -4; a <= 4; a++) {
                dueKept(a, 3, value, a == rest);
            }
            dueKept(0, 1, value, true);
            dueKept(1, 1, value, false);
            dueKept(-1, 1, value, false);
        }
        dueKept(999, 1000, -1, true);
        dueKept(-1, 1000, -1, false);
        dueKept(999, 1000, 999, true);
        dueKept(0, 1000, 1000, true);
        dueKept(1000, 1000, 1000, false);
        dueKept(192, 1000, Long.MIN_VALUE, true);
        dueKept(-808, 1000, Long.MIN_VALUE, false);
        dueKept(807, 1000, Long.MAX_VALUE, true);
    }

    private static void dueGiven(WindowMill x, int stage, int key, int minute, long value) {
        Check.due("KEY", x.gave(stage, 0), key);
        Check.due("MINUTE", x.gave(stage, 1), minute);
        Check.due("VALUE", x.gaveValue(stage), value);
    }

    @Says("1 MAP: gives on each event with the VALUE times a and b (64 bits, wrapping).")
    static void map() {
        for (int a : ANY) {
            for (int b : ANY) {
                dueMade(Check.MAP, a, b, true);
                for (long value : new long[] {-3, 0, 5, 1L << 62, Long.MIN_VALUE, Long.MAX_VALUE}) {
                    WindowMill x = millOf(value);
                    x.stage(Check.MAP, a, b);
                    x.feed(3, 10);
                    x.event(0, 3, 4, 1);
                    dueGiven(x, 3, 3, 4, value * a + b);
                }
            }
        }
        WindowMill one = millOf(Long.MAX_VALUE);
        one.stage(Check.MAP, 1, 1);
        one.feed(3, 10);
        one.event(0, 3, 4, 1);
        dueGiven(one, 3, 3, 4, Long.MIN_VALUE);
    }

    @Says("2 MERGE: gives on each as it is (a, b do not count).")
    static void merge() {
        for (int a : ANY) {
            for (int b : ANY) {
                WindowMill x = Check.mill(Check.MERGE, a, b);
                x.event(0, 999, 100000, Check.MIN);
                dueGiven(x, 0, 999, 100000, Check.MIN);
                x.event(0, 0, 0, Check.MAX);
                dueGiven(x, 0, 0, 0, Check.MAX);
            }
        }
    }

    @Says("3 KEYED: gives on each with the rest of its VALUE by a (1 .. 1000; downwards) as its KEY (b does not count).")
    static void keyedNumbers() {
        for (int b : ANY) {
            dueMade(Check.KEYED, Check.MIN, b, false);
            dueMade(Check.KEYED, -1, b, false);
            dueMade(Check.KEYED, 0, b, false);
            dueMade(Check.KEYED, 1, b, true);
            dueMade(Check.KEYED, 2, b, true);
            dueMade(Check.KEYED, 999, b, true);
            dueMade(Check.KEYED, 1000, b, true);
            dueMade(Check.KEYED, 1001, b, false);
            dueMade(Check.KEYED, Check.MAX, b, false);
        }
    }

    @Says("3 KEYED: gives on each with the rest of its VALUE by a (1 .. 1000; downwards) as its KEY (b does not count).")
    static void keyed() {
        long[][] due = {
            {1, -1, 0}, {1, 0, 0}, {1, 7, 0}, {2, -1, 1}, {2, -2, 0}, {2, 3, 1}, {1000, -1, 999}, {1000, 0, 0},
            {1000, 999, 999}, {1000, 1000, 0}, {1000, -1000, 0}, {1000, -1001, 999}, {1000, Long.MIN_VALUE, 192},
            {1000, Long.MAX_VALUE, 807}, {999, 999, 0}, {999, 998, 998}};
        for (long[] d : due) {
            for (int b : ANY) {
                WindowMill x = millOf(d[1]);
                x.stage(Check.KEYED, (int) d[0], b);
                x.feed(3, 10);
                x.event(0, 345, 6, 1);
                dueGiven(x, 3, (int) d[2], 6, d[1]);
            }
        }
        WindowMill y = Check.mill(Check.KEYED, 3, 0);
        y.stage(Check.FIXED, 10, 0);
        y.feed(1, 8);
        y.burst(0, 5007, 0, 0, -2);
        y.mark(0, 10);
        Check.dueRows(y, 0, "+1 0 0..10 1", "+1 1 0..10 2", "+1 2 0..10 2");
    }

    @Says("4 FIXED (a: 1 .. 10000 MINUTES; b does not count):")
    static void fixedNumbers() {
        for (int b : ANY) {
            dueMade(Check.FIXED, Check.MIN, b, false);
            dueMade(Check.FIXED, -1, b, false);
            dueMade(Check.FIXED, 0, b, false);
            dueMade(Check.FIXED, 1, b, true);
            dueMade(Check.FIXED, 9999, b, true);
            dueMade(Check.FIXED, 10000, b, true);
            dueMade(Check.FIXED, 10001, b, false);
            dueMade(Check.FIXED, Check.MAX, b, false);
            WindowMill x = Check.mill(Check.FIXED, 10, b, Check.HOW_MANY, 0, 1);
            x.event(0, 1, 15, 0);
            Check.dueRows(x, 0, "+0 1 10..20 1");
        }
    }

    /** What an event of this MINUTE makes in a stage of its own, as it is told early. */
    private static void dueWindows(int kind, int a, int b, int minute, int... begins) {
        WindowMill x = Check.mill(kind, a, b, Check.HOW_MANY, 0, 1);
        x.event(0, 1, minute, 0);
        String[] want = new String[begins.length];
        for (int i = 0; i < begins.length; i++) {
            want[i] = "+0 1 " + begins[i] + ".." + (begins[i] + a) + " 1";
        }
        Check.dueRows(x, 0, want);
        Check.due("windows", x.about(0, 4), begins.length);
    }

    @Says("its windows begin at all multiples of a and end a later.")
    static void fixedWindows() {
        int[][] due = {
            {1, 0, 0}, {1, 1, 1}, {1, 100000, 100000}, {10, 0, 0}, {10, 9, 0}, {10, 10, 10}, {10, 19, 10}, {10, 20, 20},
            {10000, 9999, 0}, {10000, 10000, 10000}, {10000, 99999, 90000}, {10000, 100000, 100000},
            {9999, 99989, 89991}, {9999, 99990, 99990}};
        for (int[] d : due) {
            dueWindows(Check.FIXED, d[0], 0, d[1], d[2]);
        }
    }

    @Says("5 SLIDING (a likewise, b: 1 .. a; a is at most 4 b):")
    static void slidingNumbers() {
        int[][] made = {
            {1, 1}, {2, 1}, {3, 1}, {4, 1}, {4, 3}, {4, 4}, {7, 2}, {8, 2}, {9, 3}, {10000, 2500}, {10000, 2501},
            {10000, 9999}, {10000, 10000}, {9997, 2500}};
        int[][] none = {
            {Check.MIN, 1}, {-1, 1}, {0, 0}, {0, 1}, {1, 0}, {1, -1}, {1, 2}, {4, 0}, {4, 5}, {5, 1}, {9, 2}, {10, 2},
            {10000, 2499}, {10000, 10001}, {10001, 2501}, {10001, 10000}, {10001, 10001}, {10, Check.MIN},
            {10, Check.MAX}, {Check.MAX, Check.MAX}, {Check.MIN, Check.MIN}};
        for (int[] numbers : made) {
            dueMade(Check.SLIDING, numbers[0], numbers[1], true);
        }
        for (int[] numbers : none) {
            dueMade(Check.SLIDING, numbers[0], numbers[1], false);
        }
    }

    @Says("they begin at all multiples of b, and end a later (also those that begin below 0).")
    static void slidingWindows() {
        dueWindows(Check.SLIDING, 20, 5, 0, -15, -10, -5, 0);
        dueWindows(Check.SLIDING, 20, 5, 4, -15, -10, -5, 0);
        dueWindows(Check.SLIDING, 20, 5, 5, -10, -5, 0, 5);
        dueWindows(Check.SLIDING, 20, 5, 14, -5, 0, 5, 10);
        dueWindows(Check.SLIDING, 20, 5, 15, 0, 5, 10, 15);
        dueWindows(Check.SLIDING, 7, 3, 0, -6, -3, 0);
        dueWindows(Check.SLIDING, 7, 3, 1, -3, 0);
        dueWindows(Check.SLIDING, 7, 3, 2, -3, 0);
        dueWindows(Check.SLIDING, 7, 3, 3, -3, 0, 3);
        dueWindows(Check.SLIDING, 7, 3, 4, 0, 3);
        dueWindows(Check.SLIDING, 10, 9, 8, 0);
        dueWindows(Check.SLIDING, 10, 9, 9, 0, 9);
        dueWindows(Check.SLIDING, 10, 9, 10, 9);
        dueWindows(Check.SLIDING, 10, 10, 0, 0);
        dueWindows(Check.SLIDING, 1, 1, 0, 0);
        dueWindows(Check.SLIDING, 4, 1, 2, -1, 0, 1, 2);
        dueWindows(Check.SLIDING, 10000, 2500, 0, -7500, -5000, -2500, 0);
        dueWindows(Check.SLIDING, 9997, 2500, 0, -7500, -5000, -2500, 0);
        dueWindows(Check.SLIDING, 10000, 2500, 100000, 92500, 95000, 97500, 100000);
        dueWindows(Check.SLIDING, 10000, 9999, 0, -9999, 0);
    }

    @Says("6 SESSION (a: 0 .. 10000, the gap; b does not count): below.")
    static void sessionNumbers() {
        for (int b : ANY) {
            dueMade(Check.SESSION, Check.MIN, b, false);
            dueMade(Check.SESSION, -1, b, false);
            dueMade(Check.SESSION, 0, b, true);
            dueMade(Check.SESSION, 1, b, true);
            dueMade(Check.SESSION, 9999, b, true);
            dueMade(Check.SESSION, 10000, b, true);
            dueMade(Check.SESSION, 10001, b, false);
            dueMade(Check.SESSION, Check.MAX, b, false);
            for (int gap : new int[] {0, 1, 10000}) {
                WindowMill x = Check.mill(Check.SESSION, gap, b);
                x.event(0, 1, 500, 0);
                x.event(0, 1, 500 + gap, 0);
                Check.due("the gap apart", x.about(0, 4), 1);
                x.event(0, 1, 501 + 2 * gap, 0);
                Check.due("one more apart", x.about(0, 4), 2);
            }
        }
    }

    @Says("These three give ROWS, and feed nothing.")
    static void rowsAndNothingOn() {
        for (int kind = Check.FIXED; kind <= Check.SESSION; kind++) {
            WindowMill x = Check.mill(kind, 5, 5);
            for (int behind = 0; behind <= 6; behind++) {
                int s = x.stage(behind, 4, 4);
                Check.due("KIND " + behind + " by KIND " + kind, x.feed(s, 8), Check.RING);
            }
            x.event(0, 1, 2, 3);
            Check.due("no event", x.gave(0, 0), Check.NONE);
            Check.due("but a row", x.mark(0, 20), 1);
        }
        for (int kind = Check.KEEP; kind <= Check.KEYED; kind++) {
            WindowMill x = Check.mill(kind, 1, 0);
            x.stage(Check.FIXED, 5, 0);
            Check.due("FIXED by KIND " + kind, x.feed(1, 8), 1);
            x.event(0, 1, 2, 3);
            Check.due("an event", x.gave(0, 1), 2);
            x.mark(0, 20);
            Check.due("the row is of the other", x.row(0, 1), 1);
        }
    }

    /** The same VALUES in one window of each KIND, and in a SESSION of two that become one by the last. */
    private static void dueSum(int sum, long want, int... values) {
        for (int kind = Check.FIXED; kind <= Check.SESSION; kind++) {
            WindowMill x = Check.mill(kind, 10, 10, sum, 0, 0);
            for (int value : values) {
                x.event(0, 3, 4, value);
            }
            x.mark(0, 20);
            Check.due("SUM " + sum + " of KIND " + kind, x.sum(0), want);
        }
        for (int first = 0; first < values.length; first++) {
            WindowMill x = Check.mill(Check.SESSION, 10, 0, sum, 0, 0);
            for (int i = 0; i < values.length; i++) {
                boolean isLast = i == values.length - 1;
                x.event(0, 3, isLast ? 30 : i < first ? 20 : 40, values[i]);
            }
            x.mark(0, 60);
            Check.due("SUM " + sum + " of two that become one", x.sum(0), want);
            Check.due("it is one", x.rows(), 1);
        }
    }

    @Says("SUMS of what is in a window, by VALUES: 0 how many (at first);")
    static void howMany() {
        dueSum(Check.HOW_MANY, 1, 7);
        dueSum(Check.HOW_MANY, 3, 7, 7, 7);
        dueSum(Check.HOW_MANY, 4, -1, 0, 1, 0);
        WindowMill x = Check.mill(Check.FIXED, 10, 0);
        x.event(0, 3, 4, 50);
        x.event(0, 3, 4, 60);
        x.mark(0, 10);
        Check.dueRows(x, 0, "+0 3 0..10 2");
    }

    @Says("1 all together (wrapping),")
    static void together() {
        dueSum(Check.TOGETHER, -7, -7);
        dueSum(Check.TOGETHER, 0, -7, 7);
        dueSum(Check.TOGETHER, 4294967294L, Check.MAX, Check.MAX);
        dueSum(Check.TOGETHER, -6442450944L, Check.MIN, Check.MIN, Check.MIN);
        WindowMill x = millOf(Long.MAX_VALUE);
        x.stage(Check.FIXED, 10, 0);
        x.window(3, Check.TOGETHER, 0, 1);
        Check.feedAll(x, new int[][] {{3, 10}, {3, 0}});
        x.event(0, 0, 0, 1);
        Check.dueRows(x, 0, "+3 0 0..10 9223372036854775807", "-3 0 0..10 9223372036854775807",
                "+3 0 0..10 -9223372036854775808");
    }

    @Says("2 the least,")
    static void least() {
        dueSum(Check.LEAST, 5, 5);
        dueSum(Check.LEAST, 3, 3, 5);
        dueSum(Check.LEAST, 3, 5, 4, 3);
        dueSum(Check.LEAST, -2, 5, -2, 7, -2);
        dueSum(Check.LEAST, Check.MIN, Check.MAX, 0, Check.MIN);
    }

    @Says("3 the greatest,")
    static void greatest() {
        dueSum(Check.GREATEST, -5, -5);
        dueSum(Check.GREATEST, -3, -3, -5);
        dueSum(Check.GREATEST, -3, -5, -4, -3);
        dueSum(Check.GREATEST, 7, 5, 7, -2, 7);
        dueSum(Check.GREATEST, Check.MAX, Check.MIN, 0, Check.MAX);
    }

    @Says("4 how many different ones,")
    static void different() {
        dueSum(Check.DIFFERENT, 1, 0);
        dueSum(Check.DIFFERENT, 1, 5, 5, 5);
        dueSum(Check.DIFFERENT, 2, 5, 5, 6, 5);
        dueSum(Check.DIFFERENT, 3, 5, -5, 0, 5, -5, 0);
        dueSum(Check.DIFFERENT, 2, Check.MIN, Check.MAX, Check.MIN, Check.MAX);
        dueSum(Check.DIFFERENT, 9, 9, 8, 7, 6, 5, 4, 3, 2, 1, 9, 1, 5);
    }

    @Says("5 the middle one: the (n + 1) / 2-th (the rest away) of n in rising order.")
    static void middle() {
        dueSum(Check.MIDDLE, 9, 9);
        dueSum(Check.MIDDLE, 4, 9, 4);
        dueSum(Check.MIDDLE, 7, 9, 4, 7);
        dueSum(Check.MIDDLE, 7, 9, 4, 8, 7);
        dueSum(Check.MIDDLE, 7, 1, 9, 8, 4, 7);
        dueSum(Check.MIDDLE, 1, 1, 9, 1);
        dueSum(Check.MIDDLE, 9, 9, 1, 9);
        dueSum(Check.MIDDLE, 9, 9, 9, 1, 9);
        dueSum(Check.MIDDLE, -1, Check.MAX, -1, Check.MIN, 0);
        dueSum(Check.MIDDLE, 6, 12, 11, 10, 9, 8, 7, 6, 5, 4, 3, 2, 1);
    }

    /** At this MARK, is an event of MINUTE 9 still taken by a window that ends at 10? */
    private static void dueTaken(WindowMill x, int mark, boolean want) {
        int taken = x.about(0, 2) - x.about(0, 3);
        x.mark(0, mark);
        x.event(0, 1, 9, 0);
        Check.due("taken at MARK " + mark, x.about(0, 2) - x.about(0, 3) - taken, want ? 1 : 0);
    }

    @Says("LATENESS of a stage of KINDS 4 to 6: l MINUTES, 0 at first;")
    static void lateness() {
        for (int kind = Check.FIXED; kind <= Check.SLIDING; kind++) {
            WindowMill x = Check.mill(kind, 10, 10);
            dueTaken(x, 9, true);
            dueTaken(x, 10, false);
            WindowMill y = Check.mill(kind, 10, 10, Check.HOW_MANY, 1, 0);
            dueTaken(y, 10, true);
            dueTaken(y, 11, false);
            WindowMill z = Check.mill(kind, 10, 10, Check.HOW_MANY, 100000, 0);
            dueTaken(z, 100009, true);
            dueTaken(z, 100010, false);
        }
        WindowMill x = Check.mill(Check.SESSION, 0, 0);
        dueTaken(x, 9, true);
        dueTaken(x, 10, false);
        WindowMill y = Check.mill(Check.SESSION, 0, 0, Check.HOW_MANY, 100000, 0);
        dueTaken(y, 100009, true);
        dueTaken(y, 100010, false);
    }

    @Says("EARLY: e events, 0 (not) at first.")
    static void early() {
        for (int kind = Check.FIXED; kind <= Check.SESSION; kind++) {
            WindowMill x = Check.mill(kind, 10, 10);
            Check.tell(x, 1000);
            Check.due("not at first", x.rows(), 0);
            WindowMill y = Check.mill(kind, 10, 10, Check.HOW_MANY, 0, 0);
            Check.tell(y, 1000);
            Check.due("not with 0", y.rows(), 0);
            WindowMill z = Check.mill(kind, 10, 10, Check.HOW_MANY, 0, 1000);
            Check.tell(z, 999);
            Check.due("not yet at 999", z.rows(), 0);
            Check.tell(z, 1);
            Check.due("at 1000", z.rows(), 1);
            Check.due("of all 1000", z.sum(0), 1000);
        }
    }

    @Says("These and SUMS can be told as long as no event came to the stage.")
    static void toldUntilAnEventCame() {
        for (int kind = Check.FIXED; kind <= Check.SESSION; kind++) {
            WindowMill x = Check.mill(Check.KEEP, 10, 0);
            x.stage(kind, 10, 10);
            x.feed(1, 8);
            x.stage(kind, 10, 10);
            x.feed(2, 0);
            x.mark(0, 5);
            x.event(0, 1, 6, 9);
            Check.due("one came to another stage", x.window(1, Check.LEAST, 3, 0), 1);
            Check.due("and again", x.window(1, Check.TOGETHER, 0, 2), 1);
            Check.due("one came to it", x.window(2, Check.TOGETHER, 0, 2), Check.STARTED);
            x.event(0, 1, 6, 10);
            Check.due("now one came", x.window(1, Check.LEAST, 0, 0), Check.STARTED);
            x.event(0, 1, 6, 20);
            Check.due("what was told last holds", x.sum(0), 30);
        }
        WindowMill y = Check.mill(Check.FIXED, 10, 0);
        y.mark(0, 100);
        Check.due("a MARK is no event", y.window(0, 1, 0, 0), 1);
        y.event(0, 1, 6, 0);
        Check.due("it was DROPPED", y.about(0, 3), 1);
        Check.due("but it came", y.window(0, 1, 0, 0), Check.STARTED);
    }

    public static void main(String[] args) {
        Check.runAll(KindsTest.class);
    }
}
