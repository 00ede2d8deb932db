/** Promises 5 to 8, 14 to 16, 18 and 19: event, burst, mark, idle, about, gave, gaveValue, count, markOf. */
public final class EventsTest {
    private static void event() {
        WindowMill x = Check.mill(Check.FIXED, 5, 0, Check.TOGETHER, 0, 1);
        int[][] none = {
            {-1, 0, 0}, {8, 0, 0}, {0, -1, 0}, {0, 1000, 0}, {0, 0, -1}, {0, 0, 100001},
            {Check.MIN, Check.MIN, Check.MIN}, {Check.MAX, Check.MAX, Check.MAX}};
        for (int[] c : none) {
            Check.due("event: wrong numbers", x.event(c[0], c[1], c[2], 0), -1);
        }
        Check.due("event: none came", x.count(1), 0);
        Check.due("event: the least", x.event(0, 0, 0, Check.MIN), 1);
        Check.due("event: the greatest", x.event(0, 999, 100000, Check.MAX), 2);
        Check.due("event: to a port that feeds nothing", x.event(7, 1, 1, 1), 2);
        Check.dueRows("event", x, 0, "+0 0 0..5 -2147483648", "+0 999 100000..100005 2147483647");
        Check.due("event: three came", x.count(1), 3);
        Check.due("event: two to the stage", x.about(0, 2), 2);
    }

    private static void eventsAreFull() {
        WindowMill x = Check.mill(Check.MERGE, 0, 0);
        for (int i = 0; i < 14; i++) {
            Check.due("full: 200 more", x.burst(0, 200000, 0, 0, 0), 200);
        }
        Check.due("full: 199 more", x.burst(0, 199000, 0, 0, 0), 199);
        Check.due("full: NONE goes before FULL", x.event(8, 0, 0, 0), -1);
        Check.due("full: the last", x.event(1, 0, 0, 0), 0);
        Check.due("full", x.event(0, 0, 0, 0), -6);
        Check.due("full: NONE still goes before FULL", x.event(0, 1000, 0, 0), -1);
        Check.due("full: none of a burst comes", x.burst(0, 5000, 0, 0, 0), 0);
        Check.due("full: 3000 told", x.count(1), 3000);
        Check.due("full: 2999 came to the stage", x.about(0, 2), 2999);
        WindowMill y = Check.mill(Check.MERGE, 0, 0);
        for (int i = 0; i < 14; i++) {
            y.burst(0, 200000, 0, 0, 0);
        }
        y.burst(0, 150000, 0, 0, 0);
        Check.due("full: what is left of a burst", y.burst(0, 100007, 3, 0, 9), 50);
        Check.due("full: its last VALUE", y.gaveValue(0), 58);
    }

    private static void burst() {
        WindowMill x = Check.mill(Check.MERGE, 0, 0);
        int[] none = {0, 999, -1, -1000, -5003, 201000, Check.MIN, Check.MAX};
        for (int keys : none) {
            Check.due("burst: keys " + keys, x.burst(0, keys, 0, 0, 0), -1);
        }
        Check.due("burst: port -1", x.burst(-1, 1000, 0, 0, 0), -1);
        Check.due("burst: port 8", x.burst(8, 1000, 0, 0, 0), -1);
        Check.due("burst: nothing came", x.count(1), 0);
        Check.due("burst: one", x.burst(0, 1999, 7, Check.MAX, -3), 1);
        Check.due("burst: its KEY", x.gave(0, 0), 999);
        Check.due("burst: 200", x.burst(0, 200000, 1, 2, -100), 200);
        Check.due("burst: KEY 0", x.gave(0, 0), 0);
        Check.due("burst: the last MINUTE", x.gave(0, 1), 399);
        Check.due("burst: the last VALUE", x.gaveValue(0), 99);
        Check.due("burst: back in time", x.burst(0, 9005, 10, -4, 0), 3);
        Check.due("burst: down to MINUTE 2", x.gave(0, 1), 2);
        Check.due("burst: beyond the last MINUTE", x.burst(0, 9005, 99999, 1, 0), 2);
        Check.due("burst: a first MINUTE below 0", x.burst(0, 9005, -1, 1, 0), 0);
        Check.due("burst: a first MINUTE too great", x.burst(0, 9005, 100001, -1, 0), 0);
        Check.due("burst: the greatest step", x.burst(0, 3005, 100000, Check.MAX, 0), 1);
        Check.due("burst: the least step", x.burst(0, 3005, 0, Check.MIN, 0), 1);
        Check.due("burst: VALUES are longs", x.burst(0, 3005, 0, 0, Check.MAX), 3);
        Check.due("burst: above all ints", x.gaveValue(0), 2147483649L);
    }

    private static void burstIsOneBehindTheOther() {
        WindowMill x = Check.mill(Check.FIXED, 10, 0, Check.TOGETHER, 0, 2);
        Check.due("burst: five", x.burst(0, 5003, 0, 4, 1), 5);
        Check.dueRows("burst: rows by the way", x, 0, "+0 3 0..10 3", "+0 3 10..20 9");
    }

    private static void mark() {
        WindowMill x = Check.mill(Check.FIXED, 10, 0);
        x.event(0, 1, 5, 0);
        Check.due("mark: port -1", x.mark(-1, 0), -1);
        Check.due("mark: port 8", x.mark(8, 0), -1);
        Check.due("mark: -1", x.mark(0, -1), -1);
        Check.due("mark: 200001", x.mark(0, 200001), -1);
        Check.due("mark: just before the end", x.mark(0, 9), 0);
        Check.due("mark: behind", x.mark(0, 8), -5);
        Check.due("mark: it stays", x.markOf(0), 9);
        Check.due("mark: NONE goes before BEHIND", x.mark(0, -9), -1);
        Check.due("mark: the same", x.mark(0, 9), 0);
        Check.due("mark: of a port that feeds nothing", x.mark(5, 50), 0);
        Check.due("mark: at the end", x.mark(0, 10), 1);
        Check.due("mark: the greatest", x.mark(0, 200000), 1);
        Check.due("mark: of the stage", x.about(0, 1), 200000);
    }

    private static void markOfStages() {
        WindowMill x = new WindowMill();
        x.stage(Check.MERGE, 0, 0);
        x.stage(Check.MERGE, 0, 0);
        x.stage(Check.MERGE, 0, 0);
        x.feed(0, 0);
        x.feed(0, 1);
        x.feed(1, 2);
        x.feed(2, 8);
        x.feed(2, 9);
        x.mark(0, 10);
        Check.due("marks: the least of two", x.about(0, 1), 0);
        x.mark(1, 20);
        Check.due("marks: of 10 and 20", x.about(0, 1), 10);
        Check.due("marks: port 2 is at 0", x.about(2, 1), 0);
        x.mark(2, 15);
        Check.due("marks: of 10 and 15", x.about(2, 1), 10);
        x.idle(0, 1);
        Check.due("marks: without the idle one", x.about(0, 1), 20);
        Check.due("marks: and further on", x.about(2, 1), 15);
        x.idle(0, 0);
        Check.due("marks: never back", x.about(0, 1), 20);
        x.mark(1, 40);
        Check.due("marks: the port is still at 10", x.about(0, 1), 20);
        x.mark(0, 30);
        Check.due("marks: 30", x.about(0, 1), 30);
    }

    private static void idle() {
        WindowMill x = new WindowMill();
        x.stage(Check.MERGE, 0, 0);
        x.stage(Check.FIXED, 10, 0);
        Check.due("idle: nothing feeds it", x.about(0, 7), 1);
        x.feed(1, 8);
        Check.due("idle: only an idle stage feeds it", x.about(1, 7), 1);
        x.feed(0, 0);
        x.feed(0, 3);
        Check.due("idle: no more", x.about(0, 7), 0);
        Check.due("idle: nor further on", x.about(1, 7), 0);
        Check.due("idle: port -1", x.idle(-1, 0), -1);
        Check.due("idle: port 8", x.idle(8, 0), -1);
        Check.due("idle: 2", x.idle(0, 2), -1);
        Check.due("idle: -1", x.idle(0, -1), -1);
        Check.due("idle: was not", x.idle(0, 1), 0);
        Check.due("idle: one of two", x.about(0, 7), 0);
        Check.due("idle: was", x.idle(0, 1), 1);
        Check.due("idle: the other", x.idle(3, 1), 0);
        Check.due("idle: both of two", x.about(0, 7), 1);
        Check.due("idle: and further on", x.about(1, 7), 1);
        x.mark(3, 60);
        Check.due("idle: no mark comes through", x.about(1, 1), 0);
        Check.due("idle: its mark is told", x.markOf(3), 60);
        x.event(3, 2, 5, 0);
        Check.due("idle: events come through", x.about(1, 4), 1);
        Check.due("idle: no row yet", x.rows(), 0);
        Check.due("idle: not any more", x.idle(3, 0), 1);
        Check.due("idle: the mark comes through", x.about(1, 1), 60);
        Check.dueRows("idle: with a row", x, 0, "+1 2 0..10 1");
    }

    private static void keep() {
        WindowMill x = Check.mill(Check.KEEP, -2, 0);
        x.event(0, 1, 10, -3);
        Check.due("keep: below a", x.gave(0, 0), -1);
        Check.due("keep: but it came", x.about(0, 2), 1);
        x.event(0, 2, 20, -2);
        Check.due("keep: a itself", x.gave(0, 0), 2);
        x.event(0, 3, 30, -3);
        Check.due("keep: the latest given", x.gave(0, 1), 20);
        WindowMill y = Check.mill(Check.KEEP, 2, 3);
        y.event(0, 1, 10, -4);
        Check.due("keep: the rest of -4 by 3 is 2", y.gaveValue(0), -4);
        y.event(0, 1, 10, 4);
        Check.due("keep: that of 4 is 1", y.gaveValue(0), -4);
        WindowMill z = Check.mill(Check.KEEP, 3, 3);
        z.burst(0, 9001, 0, 1, -4);
        Check.due("keep: 3 is no rest by 3", z.gave(0, 0), -1);
        WindowMill minus = Check.mill(Check.KEEP, -1, 3);
        minus.burst(0, 9001, 0, 1, -4);
        Check.due("keep: nor is -1", minus.gave(0, 0), -1);
    }

    private static void mapMergeKeyed() {
        WindowMill x = Check.mill(Check.MAP, Check.MIN, Check.MAX);
        x.event(0, 4, 5, Check.MIN);
        Check.due("map: (1 << 62) and MAX", x.gaveValue(0), (1L << 62) + Check.MAX);
        WindowMill y = Check.mill(Check.MAP, Check.MAX, -5);
        y.stage(Check.MAP, Check.MAX, -5);
        y.feed(1, 8);
        y.stage(Check.MAP, Check.MAX, -5);
        y.feed(2, 9);
        y.event(0, 4, 5, Check.MAX);
        long once = (long) Check.MAX * Check.MAX - 5;
        Check.due("map: once", y.gaveValue(0), once);
        Check.due("map: wraps", y.gaveValue(2), (once * Check.MAX - 5) * Check.MAX - 5);
        Check.due("map: the KEY", y.gave(2, 0), 4);
        Check.due("map: the MINUTE", y.gave(2, 1), 5);
        WindowMill z = Check.mill(Check.KEYED, 1000, 0);
        z.event(0, 4, 5, -1);
        Check.due("keyed: the rest of -1", z.gave(0, 0), 999);
        Check.due("keyed: VALUE as it is", z.gaveValue(0), -1);
        Check.due("keyed: MINUTE as it is", z.gave(0, 1), 5);
        z.event(0, 4, 5, 2007);
        Check.due("keyed: the rest of 2007", z.gave(0, 0), 7);
        WindowMill merge = Check.mill(Check.MERGE, 3, 3);
        merge.event(0, 4, 5, -6);
        Check.due("merge: KEY", merge.gave(0, 0), 4);
        Check.due("merge: VALUE", merge.gaveValue(0), -6);
    }

    private static void gave() {
        WindowMill x = Check.mill(Check.MERGE, 0, 0);
        x.stage(Check.FIXED, 10, 0);
        x.feed(1, 8);
        Check.due("gave: none yet", x.gave(0, 1), -1);
        Check.due("gave: no VALUE yet", x.gaveValue(0), 0);
        x.event(0, 3, 4, 5);
        Check.due("gave: KEY", x.gave(0, 0), 3);
        Check.due("gave: MINUTE", x.gave(0, 1), 4);
        Check.due("gave: VALUE", x.gaveValue(0), 5);
        Check.due("gave: what -1", x.gave(0, -1), -1);
        Check.due("gave: what 2", x.gave(0, 2), -1);
        Check.due("gave: a FIXED gives no events", x.gave(1, 0), -1);
        Check.due("gave: nor a VALUE", x.gaveValue(1), 0);
        Check.due("gave: no such stage", x.gave(2, 0), -1);
        Check.due("gave: stage -1", x.gave(-1, 0), -1);
        Check.due("gave: no VALUE of it", x.gaveValue(2), 0);
        Check.due("gave: stage MIN", x.gaveValue(Check.MIN), 0);
    }

    /** Stage 1 is fed by the port and by stage 0, and rows show which of these came first. */
    private static void depthGoesFirst() {
        WindowMill x = new WindowMill();
        x.stage(Check.MAP, 10, 0);
        x.stage(Check.MERGE, 0, 0);
        x.stage(Check.FIXED, 10, 0);
        x.stage(Check.FIXED, 10, 0);
        x.window(2, Check.TOGETHER, 0, 1);
        x.window(3, Check.TOGETHER, 0, 1);
        x.feed(0, 0);
        x.feed(1, 8);
        x.feed(1, 0);
        x.feed(2, 9);
        x.feed(3, 8);
        x.event(0, 7, 3, 2);
        Check.dueRows("depth first", x, 0, "+2 7 0..10 20", "+3 7 0..10 20", "-2 7 0..10 20", "+2 7 0..10 22");
        Check.due("depth first: the latest is the port's", x.gaveValue(1), 2);
        Check.due("depth first: two came", x.about(1, 2), 2);
    }

    private static void about() {
        WindowMill x = Check.mill(Check.SLIDING, 20, 5, Check.HOW_MANY, 0, 0);
        x.event(0, 1, 12, 0);
        x.event(0, 1, 13, 0);
        x.event(0, 2, 12, 0);
        x.mark(0, 20);
        x.event(0, 1, 1, 0);
        int[] want = {Check.SLIDING, 20, 4, 4, 4, 6, 1, 0};
        for (int what = 0; what < want.length; what++) {
            Check.due("about: " + what, x.about(0, what), want[what]);
        }
        Check.due("about: what -1", x.about(0, -1), -1);
        Check.due("about: what 8", x.about(0, 8), -1);
        Check.due("about: stage -1", x.about(-1, 0), -1);
        Check.due("about: stage 1", x.about(1, 0), -1);
        WindowMill y = Check.mill(Check.KEEP, 5, 0);
        y.event(0, 0, 0, 0);
        int[] wantKeep = {Check.KEEP, 0, 1, 0, 0, 0, 1, 0};
        for (int what = 0; what < wantKeep.length; what++) {
            Check.due("about: a KEEP " + what, y.about(0, what), wantKeep[what]);
        }
    }

    private static void countAndMarkOf() {
        WindowMill x = Check.mill(Check.FIXED, 10, 0);
        x.stage(Check.SESSION, 3, 0);
        x.feed(1, 0);
        x.event(0, 1, 5, 0);
        x.event(0, 1, 15, 0);
        x.event(0, 1, 16, 0);
        Check.due("count: stages", x.count(0), 2);
        Check.due("count: events", x.count(1), 3);
        Check.due("count: windows", x.count(2), 4);
        x.mark(0, 12);
        Check.due("count: windows not LET GO", x.count(2), 2);
        Check.due("count: what 3", x.count(3), -1);
        Check.due("count: what -1", x.count(-1), -1);
        Check.due("markOf: 0", x.markOf(0), 12);
        Check.due("markOf: 7", x.markOf(7), 0);
        Check.due("markOf: 8", x.markOf(8), -1);
        Check.due("markOf: -1", x.markOf(-1), -1);
        Check.due("markOf: MIN", x.markOf(Check.MIN), -1);
    }

    public static void main(String[] args) {
        event();
        eventsAreFull();
        burst();
        burstIsOneBehindTheOther();
        mark();
        markOfStages();
        idle();
        keep();
        mapMergeKeyed();
        gave();
        depthGoesFirst();
        about();
        countAndMarkOf();
        Check.end("EventsTest");
    }
}
