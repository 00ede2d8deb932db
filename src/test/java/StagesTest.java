/** Promises 1 to 4: a new object, stage, feed, window. */
public final class StagesTest {
    private static void newObject() {
        WindowMill x = new WindowMill();
        for (int what = 0; what <= 2; what++) {
            Check.due("new: count(" + what + ")", x.count(what), 0);
        }
        Check.due("new: rows()", x.rows(), 0);
        for (int port = 0; port < 8; port++) {
            Check.due("new: markOf(" + port + ")", x.markOf(port), 0);
            Check.due("new: idle(" + port + ", 0)", x.idle(port, 0), 0);
        }
        Check.due("new: about(0, 0)", x.about(0, 0), -1);
    }

    private static void stage() {
        int[][] good = {
            {Check.KEEP, Check.MIN, 0}, {Check.KEEP, Check.MAX, 1000}, {Check.MAP, Check.MIN, Check.MAX},
            {Check.MERGE, -7, -7}, {Check.KEYED, 1, Check.MIN}, {Check.KEYED, 1000, 0},
            {Check.FIXED, 1, Check.MIN}, {Check.FIXED, 10000, Check.MAX}, {Check.SLIDING, 1, 1},
            {Check.SLIDING, 10000, 2500}, {Check.SLIDING, 10000, 10000}, {Check.SLIDING, 7, 2},
            {Check.SESSION, 0, Check.MIN}, {Check.SESSION, 10000, Check.MAX}};
        int[][] bad = {
            {-1, 1, 1}, {7, 1, 1}, {Check.MIN, 1, 1}, {Check.MAX, 1, 1}, {Check.KEEP, 0, -1}, {Check.KEEP, 0, 1001},
            {Check.KEYED, 0, 0}, {Check.KEYED, 1001, 0}, {Check.KEYED, -1, 0}, {Check.FIXED, 0, 0},
            {Check.FIXED, 10001, 0}, {Check.FIXED, Check.MIN, 0}, {Check.SLIDING, 0, 0},
            {Check.SLIDING, 10001, 5000}, {Check.SLIDING, 10, 0}, {Check.SLIDING, 10, 11}, {Check.SLIDING, 9, 2},
            {Check.SLIDING, 10, Check.MIN}, {Check.SLIDING, 10, Check.MAX}, {Check.SESSION, -1, 0},
            {Check.SESSION, 10001, 0}};
        WindowMill x = new WindowMill();
        for (int i = 0; i < good.length; i++) {
            Check.due("stage: good " + i, x.stage(good[i][0], good[i][1], good[i][2]), i);
            Check.due("stage: its kind", x.about(i, 0), good[i][0]);
        }
        for (int i = 0; i < bad.length; i++) {
            Check.due("stage: bad " + i, x.stage(bad[i][0], bad[i][1], bad[i][2]), -1);
        }
        Check.due("stage: no bad one was made", x.count(0), good.length);
        Check.due("stage: 14", x.stage(Check.MERGE, 0, 0), 14);
        Check.due("stage: 15", x.stage(Check.MERGE, 0, 0), 15);
        Check.due("stage: full", x.stage(Check.MERGE, 0, 0), -6);
        Check.due("stage: NONE goes before FULL", x.stage(7, 0, 0), -1);
        Check.due("stage: 16 of them", x.count(0), 16);
    }

    private static void feed() {
        WindowMill x = new WindowMill();
        Check.due("feed: no stage yet", x.feed(0, 0), -1);
        x.stage(Check.MERGE, 0, 0);
        x.stage(Check.FIXED, 10, 0);
        x.stage(Check.MERGE, 0, 0);
        for (int port = 0; port < 8; port++) {
            Check.due("feed: how many", x.feed(2, port), port + 1);
        }
        Check.due("feed: by a stage", x.feed(2, 8), 9);
        int[][] none = {
            {-1, 0}, {3, 0}, {Check.MIN, 0}, {Check.MAX, 0}, {0, -1}, {0, 11}, {0, Check.MIN}, {0, Check.MAX},
            {2, 24}, {2, 32}};
        for (int[] call : none) {
            Check.due("feed(" + call[0] + ", " + call[1] + ")", x.feed(call[0], call[1]), -1);
        }
        int[][] ring = {{0, 8}, {0, 10}, {1, 10}, {2, 9}, {2, 10}, {2, 0}, {2, 8}};
        for (int[] call : ring) {
            Check.due("feed(" + call[0] + ", " + call[1] + ")", x.feed(call[0], call[1]), -3);
        }
        Check.due("feed: refusals change nothing", x.about(2, 6), 9);
        Check.due("feed: still not fed", x.about(0, 6), 0);
        x.event(3, 0, 0, 0);
        Check.due("feed: RING goes before STARTED", x.feed(2, 3), -3);
        x.stage(Check.KEEP, 1, 0);
        Check.due("feed: 3 by port 3", x.feed(3, 3), 1);
        x.event(3, 0, 0, 0);
        Check.due("feed: STARTED by an event that it did not keep", x.feed(3, 4), -4);
        Check.due("feed: NONE goes before STARTED", x.feed(3, 12), -1);
    }

    private static void feedRaisesMarks() {
        WindowMill x = new WindowMill();
        x.stage(Check.MERGE, 0, 0);
        x.stage(Check.FIXED, 10, 0);
        x.mark(1, 50);
        x.idle(0, 1);
        x.feed(1, 0);
        x.feed(1, 8);
        x.event(0, 4, 3, 0);
        Check.due("feed: all that feeds it is idle", x.about(1, 1), 0);
        Check.due("feed: stage 0 by port 1", x.feed(0, 1), 1);
        Check.due("feed: its mark goes up", x.about(0, 1), 50);
        Check.due("feed: and that of what it feeds", x.about(1, 1), 50);
        Check.dueRows("feed: a row comes of it", x, 0, "+1 4 0..10 1");
        x.feed(0, 2);
        Check.due("feed: a mark never goes back", x.about(0, 1), 50);
        Check.due("feed: nor does it further on", x.about(1, 1), 50);
        x.mark(1, 90);
        Check.due("feed: it waits for the new one", x.about(0, 1), 50);
        x.mark(2, 70);
        Check.due("feed: and goes on with it", x.about(1, 1), 70);
    }

    private static void waysOfAPort() {
        WindowMill x = new WindowMill();
        for (int s = 0; s < 6; s++) {
            x.stage(Check.MERGE, 0, 0);
        }
        int[][] feedings = {
            {0, 0}, {1, 0}, {1, 8}, {2, 8}, {2, 9}, {3, 8}, {3, 9}, {3, 10}, {4, 8}, {4, 9}, {4, 10}, {4, 11}};
        for (int[] call : feedings) {
            x.feed(call[0], call[1]);
        }
        Check.due("ways: 1, 2, 3, 6, 12 and 6 are 30", x.feed(5, 11), 1);
        Check.due("ways: 12 more are 42", x.feed(5, 12), -6);
        Check.due("ways: 3 more are 33", x.feed(5, 10), -6);
        Check.due("ways: 2 more are 32", x.feed(5, 9), 2);
        Check.due("ways: 1 more is 33", x.feed(5, 8), -6);
        Check.due("ways: another port has its own", x.feed(5, 1), 3);
        Check.due("ways: refused and not fed", x.about(5, 6), 3);
        x.event(0, 0, 0, 0);
        Check.due("ways: an event comes once for each", x.about(5, 2), 8);
        Check.due("ways: to stage 4, too", x.about(4, 2), 12);
        Check.due("ways: STARTED goes before FULL", x.feed(5, 12), -4);
    }

    private static void waysToWindows() {
        WindowMill x = new WindowMill();
        for (int kind = Check.FIXED; kind <= Check.SESSION; kind++) {
            x.stage(kind, 4, 4);
            Check.due("ways: to kind " + kind, x.feed(kind - Check.FIXED, 0), 1);
        }
        x.stage(Check.FIXED, 1, 0);
        Check.due("ways: the fourth to windows", x.feed(3, 0), 1);
        x.stage(Check.FIXED, 1, 0);
        Check.due("ways: a fifth", x.feed(4, 0), -6);
        Check.due("ways: from another port", x.feed(4, 1), 1);
        x.stage(Check.MERGE, 0, 0);
        Check.due("ways: to no window", x.feed(5, 0), 1);
    }

    private static void waysFurtherOn() {
        WindowMill x = new WindowMill();
        for (int s = 0; s < 16; s++) {
            x.stage(Check.MERGE, 0, 0);
            for (int from = 0; from < s; from++) {
                Check.due("ways: without a port there are none", x.feed(s, 8 + from), from + 1);
            }
        }
        Check.due("ways: all that lies behind counts", x.feed(0, 0), -6);
        Check.due("ways: 1, 1, 2, 4, 8 and 16 are 32", x.feed(10, 0), 11);
        Check.due("ways: one more", x.feed(15, 0), -6);
        x.event(0, 0, 0, 0);
        Check.due("ways: to the last", x.about(15, 2), 16);
    }

    private static void window() {
        WindowMill x = Check.mill(Check.FIXED, 10, 0);
        x.stage(Check.MERGE, 0, 0);
        int[][] none = {
            {-1, 0, 0, 0}, {2, 0, 0, 0}, {0, -1, 0, 0}, {0, 6, 0, 0}, {0, 0, -1, 0}, {0, 0, 100001, 0},
            {0, 0, 0, -1}, {0, 0, 0, 1001}, {1, 6, 0, 0}, {Check.MAX, Check.MAX, Check.MAX, Check.MAX},
            {Check.MIN, Check.MIN, Check.MIN, Check.MIN}};
        for (int[] c : none) {
            Check.due("window: wrong numbers", x.window(c[0], c[1], c[2], c[3]), -1);
        }
        Check.due("window: a MERGE", x.window(1, 0, 0, 0), -2);
        Check.due("window: the most", x.window(0, 5, 100000, 1000), 1);
        Check.due("window: again", x.window(0, 1, 0, 2), 1);
        x.event(0, 1, 1, 40);
        x.event(0, 1, 1, 2);
        Check.dueRows("window: the last told counts", x, 0, "+0 1 0..10 42");
        Check.due("window: STARTED", x.window(0, 0, 0, 0), -4);
        Check.due("window: NONE goes before STARTED", x.window(0, 6, 0, 0), -1);
        for (int kind = Check.FIXED; kind <= Check.SESSION; kind++) {
            Check.due("window: of kind " + kind, Check.mill(kind, 3, 3).window(0, 2, 3, 4), 1);
        }
    }

    private static void windowNotTold() {
        WindowMill x = Check.mill(Check.FIXED, 10, 0);
        x.event(0, 1, 1, 40);
        x.event(0, 1, 1, 2);
        x.mark(0, 10);
        Check.dueRows("window: not told, it is how many, at the end", x, 0, "+0 1 0..10 2");
        x.event(0, 1, 1, 2);
        Check.due("window: not told, nothing may be late", x.about(0, 3), 1);
    }

    public static void main(String[] args) {
        newObject();
        stage();
        feed();
        feedRaisesMarks();
        waysOfAPort();
        waysToWindows();
        waysFurtherOn();
        window();
        windowNotTold();
        Check.end("StagesTest");
    }
}
