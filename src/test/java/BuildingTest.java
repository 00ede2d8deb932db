/** Promises 1 to 4: a new object, stage, feed, window. */
public final class BuildingTest {
    @Says(promise = 1, value = "No stages; all marks are 0, no port is IDLE.")
    static void newObject() {
        WindowMill x = new WindowMill();
        for (int what = 0; what <= 2; what++) {
            Check.due("count(" + what + ")", x.count(what), 0);
        }
        Check.due("rows()", x.rows(), 0);
        Check.due("about(0, 0)", x.about(0, 0), Check.NONE);
        Check.due("left(0)", x.left(0), Check.NONE);
        Check.due("feed(0, 0)", x.feed(0, 0), Check.NONE);
        Check.due("window(0, 0, 0, 0)", x.window(0, 0, 0, 0), Check.NONE);
        for (int port = 0; port <= 7; port++) {
            Check.due("markOf(" + port + ")", x.markOf(port), 0);
            Check.due("idle(" + port + ", 0)", x.idle(port, 0), 0);
        }
    }

    @Says(promise = 2, value = "A new stage of a KIND (0 .. 6): its number.")
    static void stage() {
        WindowMill x = new WindowMill();
        Check.due("KIND -1", x.stage(-1, 1, 1), Check.NONE);
        for (int kind = 0; kind <= 6; kind++) {
            Check.due("KIND " + kind, x.stage(kind, 1, 1), kind);
            Check.due("about it", x.about(kind, 0), kind);
            Check.due("stages", x.count(0), kind + 1);
        }
        Check.due("KIND 7", x.stage(7, 1, 1), Check.NONE);
        Check.due("a second of KIND 0", x.stage(0, 1, 1), 7);
    }

    @Says(promise = 2, value = "NONE: no such kind, a or b is not as said.")
    static void noSuchStage() {
        int[][] none = {
            {-1, 1, 1}, {7, 1, 1}, {Check.MIN, 1, 1}, {Check.MAX, 1, 1}, {Check.KEEP, 0, -1}, {Check.KEEP, 0, 1001},
            {Check.KEYED, 0, 0}, {Check.KEYED, 1001, 0}, {Check.FIXED, 0, 0}, {Check.FIXED, 10001, 0},
            {Check.SLIDING, 0, 0}, {Check.SLIDING, 10001, 5000}, {Check.SLIDING, 10, 0}, {Check.SLIDING, 10, 11},
            {Check.SLIDING, 9, 2}, {Check.SESSION, -1, 0}, {Check.SESSION, 10001, 0}};
        for (int[] c : none) {
            String name = "stage(" + c[0] + ", " + c[1] + ", " + c[2] + ")";
            Check.refused(Check.NONE, () -> Check.mill(Check.FIXED, 5, 0), name, x -> x.stage(c[0], c[1], c[2]));
        }
    }

    @Says(promise = 2, value = "FULL (stages).")
    static void fullOfStages() {
        WindowMill x = Check.merges(14);
        Check.due("15 of them", x.stage(Check.SESSION, 0, 0), 14);
        Check.due("16 of them", x.stage(Check.SESSION, 0, 0), 15);
        Check.due("one more", x.stage(Check.SESSION, 0, 0), Check.FULL);
        Check.due("and again", x.stage(Check.KEEP, 0, 0), Check.FULL);
        Check.due("one that is no kind", x.stage(7, 0, 0), Check.NONE);
        Check.due("stages", x.count(0), 16);
    }

    @Says(promise = 3, value = "A stage is FED by port from (0 .. 7), or by stage from - 8 (from 8 on): how many feed it.")
    static void feed() {
        WindowMill x = Check.merges(16);
        for (int from = 0; from <= 7; from++) {
            Check.due("by port " + from, x.feed(15, from), from + 1);
        }
        for (int from = 8; from <= 22; from++) {
            Check.due("by stage " + (from - 8), x.feed(15, from), from + 1);
        }
        Check.due("how many feed it", x.about(15, 6), 23);
        Check.due("stage 3 by port 7", x.feed(3, 7), 1);
        x.event(7, 1, 1, 1);
        Check.due("came to stage 3", x.about(3, 2), 1);
        Check.due("came to stage 15 by port 7 and stage 3", x.about(15, 2), 2);
        Check.due("came to stage 7", x.about(7, 2), 0);
    }

    @Says(promise = 3, value = "NONE: no such stage (from, too), port.")
    static void noSuchFeeder() {
        int[][] none = {
            {-1, 0}, {3, 0}, {16, 0}, {Check.MIN, 0}, {Check.MAX, 0}, {2, -1}, {2, 11}, {2, 23}, {2, 24}, {2, 31}, {2, 32},
            {2, 40}, {2, Check.MIN}, {2, Check.MAX}, {3, 11}, {-1, -1}, {0, 11}};
        for (int[] c : none) {
            Check.refused(Check.NONE, () -> Check.merges(3), "feed(" + c[0] + ", " + c[1] + ")", x -> x.feed(c[0], c[1]));
        }
        Check.due("the last stage, and the last ahead", Check.merges(3).feed(2, 9), 1);
        Check.due("the last of sixteen, by itself", Check.merges(16).feed(15, 23), Check.RING);
        Check.due("the last of sixteen, by none", Check.merges(16).feed(15, 24), Check.NONE);
    }

    @Says(promise = 3, value = {"RING.", "STARTED."})
    static void ringAndStarted() {
        WindowMill x = Check.merges(1);
        x.stage(Check.FIXED, 10, 0);
        x.stage(Check.KEEP, 5, 0);
        Check.due("by port 3", x.feed(2, 3), 1);
        int[][] ring = {{0, 8}, {0, 9}, {0, 10}, {1, 9}, {1, 10}, {2, 9}, {2, 10}, {2, 3}};
        for (int[] c : ring) {
            Check.due("feed(" + c[0] + ", " + c[1] + ")", x.feed(c[0], c[1]), Check.RING);
        }
        Check.due("by stage 0", x.feed(2, 8), 2);
        Check.due("by stage 0 again", x.feed(2, 8), Check.RING);
        x.event(4, 0, 0, 0);
        Check.due("no event came to it", x.feed(2, 4), 3);
        x.event(4, 0, 0, 0);
        Check.due("one came that it did not keep", x.feed(2, 5), Check.STARTED);
        Check.due("none came to what feeds it", x.feed(0, 4), 1);
        Check.due("how many feed it", x.about(2, 6), 3);
    }

    @Says(promise = 3, value = "FULL (WAYS).")
    static void fullOfWays() {
        WindowMill x = Check.merges(6);
        Check.feedAll(x, new int[][] {
            {0, 0}, {1, 0}, {1, 8}, {2, 8}, {2, 9}, {3, 8}, {3, 9}, {3, 10}, {4, 8}, {4, 9}, {4, 10}, {4, 11}});
        Check.due("1, 2, 3, 6, 12 and 6 are 30", x.feed(5, 11), 1);
        Check.due("12 more are 42", x.feed(5, 12), Check.FULL);
        Check.due("3 more are 33", x.feed(5, 10), Check.FULL);
        Check.due("2 more are 32", x.feed(5, 9), 2);
        Check.due("1 more is 33", x.feed(5, 8), Check.FULL);
        Check.due("another port has its own", x.feed(5, 1), 3);
        Check.due("refused and not fed", x.about(5, 6), 3);
        x.event(0, 0, 0, 0);
        Check.due("an event comes once for each", x.about(5, 2), 8);
        Check.due("to stage 4, too", x.about(4, 2), 12);
    }

    @Says(promise = 4, value = "SUMS, LATENESS (0 .. 100000) and EARLY (0 .. 1000) of a stage: 1.")
    static void window() {
        for (int kind = Check.FIXED; kind <= Check.SESSION; kind++) {
            WindowMill x = Check.mill(kind, 3, 3);
            for (int sum = 0; sum <= 5; sum++) {
                Check.due("SUM " + sum, x.window(0, sum, 0, 0), 1);
            }
            for (int late : new int[] {0, 1, 99999, 100000}) {
                Check.due("LATENESS " + late, x.window(0, 0, late, 0), 1);
            }
            for (int early : new int[] {0, 1, 999, 1000}) {
                Check.due("EARLY " + early, x.window(0, 0, 0, early), 1);
            }
            Check.due("the most of all", x.window(0, 5, 100000, 1000), 1);
            Check.due("the last told counts", x.window(0, Check.TOGETHER, 7, 2), 1);
            x.event(0, 1, 1, 40);
            x.event(0, 1, 1, 2);
            Check.due("SUM", x.sum(0), 42);
            Check.due("EARLY", x.rows(), 1);
            // The windows end at 3, and the SESSION at 5: its last possible joiner comes 3 later.
            x.mark(0, kind == Check.SESSION ? 14 : 9);
            Check.due("not LET GO", x.about(0, 4), 1);
            x.mark(0, kind == Check.SESSION ? 15 : 10);
            Check.due("LET GO", x.about(0, 4), 0);
        }
    }

    private static WindowMill withAMerge() {
        WindowMill x = Check.mill(Check.FIXED, 10, 0, Check.TOGETHER, 150, 2);
        x.stage(Check.MERGE, 0, 0);
        return x;
    }

    @Says(promise = 4, value = "NONE.")
    static void windowNone() {
        int[][] none = {
            {-1, 0, 0, 0}, {2, 0, 0, 0}, {16, 0, 0, 0}, {0, -1, 0, 0}, {0, 6, 0, 0}, {0, 0, -1, 0}, {0, 0, 100001, 0},
            {0, 0, 0, -1}, {0, 0, 0, 1001}, {Check.MAX, 0, 0, 0}, {Check.MIN, 0, 0, 0}, {0, Check.MAX, 0, 0},
            {0, Check.MIN, 0, 0}, {0, 0, Check.MAX, 0}, {0, 0, Check.MIN, 0}, {0, 0, 0, Check.MAX}, {0, 0, 0, Check.MIN}};
        for (int[] c : none) {
            String name = "window(" + c[0] + ", " + c[1] + ", " + c[2] + ", " + c[3] + ")";
            Check.refused(Check.NONE, BuildingTest::withAMerge, name, x -> x.window(c[0], c[1], c[2], c[3]));
        }
    }

    @Says(promise = 4, value = "KIND: not of KINDS 4 to 6.")
    static void windowKind() {
        for (int kind = Check.KEEP; kind <= Check.KEYED; kind++) {
            Check.due("KIND " + kind, Check.mill(kind, 1, 1).window(0, 0, 0, 0), Check.KIND);
        }
        for (int kind = Check.FIXED; kind <= Check.SESSION; kind++) {
            Check.due("KIND " + kind, Check.mill(kind, 1, 1).window(0, 0, 0, 0), 1);
        }
    }

    @Says(promise = 4, value = "STARTED.")
    static void windowStarted() {
        for (int kind = Check.FIXED; kind <= Check.SESSION; kind++) {
            WindowMill x = Check.mill(kind, 10, 10);
            x.event(1, 1, 1, 40);
            Check.due("one came to a port that feeds it not", x.window(0, Check.TOGETHER, 0, 0), 1);
            x.event(0, 1, 1, 40);
            Check.due("one came", x.window(0, Check.LEAST, 0, 1), Check.STARTED);
            x.event(0, 1, 1, 2);
            Check.due("two came", x.window(0, Check.LEAST, 0, 1), Check.STARTED);
            x.mark(0, 50);
            Check.due("all LET GO", x.window(0, Check.LEAST, 0, 1), Check.STARTED);
            Check.due("one row", x.rows(), 1);
            Check.due("its SUM", x.sum(0), 42);
        }
    }

    public static void main(String[] args) {
        Check.runAll(BuildingTest.class);
    }
}
