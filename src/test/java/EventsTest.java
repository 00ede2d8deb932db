/** "Terms", part 1: events, ports, stages, marks and ways. */
public final class EventsTest {
    @Says("EVENTS have a KEY (0 .. 999)")
    static void keys() {
        WindowMill x = Check.mill(Check.FIXED, 10, 0, Check.HOW_MANY, 0, 1);
        for (int key : new int[] {Check.MIN, -1000, -1, 1000, 1001, Check.MAX}) {
            Check.due("KEY " + key, x.event(0, key, 5, 0), Check.NONE);
        }
        Check.due("KEY 0", x.event(0, 0, 5, 0), 1);
        Check.due("KEY 1", x.event(0, 1, 5, 0), 2);
        Check.due("KEY 998", x.event(0, 998, 5, 0), 3);
        Check.due("KEY 999", x.event(0, 999, 5, 0), 4);
        Check.dueRows(x, 0, "+0 0 0..10 1", "+0 1 0..10 1", "+0 998 0..10 1", "+0 999 0..10 1");
    }

    @Says("a MINUTE (0 .. 100000)")
    static void minutes() {
        WindowMill x = Check.mill(Check.FIXED, 1, 0, Check.HOW_MANY, 0, 1);
        for (int minute : new int[] {Check.MIN, -1, 100001, Check.MAX}) {
            Check.due("MINUTE " + minute, x.event(0, 5, minute, 0), Check.NONE);
        }
        Check.due("MINUTE 0", x.event(0, 5, 0, 0), 1);
        Check.due("MINUTE 1", x.event(0, 5, 1, 0), 2);
        Check.due("MINUTE 99999", x.event(0, 5, 99999, 0), 3);
        Check.due("MINUTE 100000", x.event(0, 5, 100000, 0), 4);
        Check.dueRows(x, 0, "+0 5 0..1 1", "+0 5 1..2 1", "+0 5 99999..100000 1", "+0 5 100000..100001 1");
    }

    @Says("a VALUE (a long)")
    static void values() {
        WindowMill x = Check.mill(Check.MERGE, 0, 0);
        x.event(0, 0, 0, Check.MIN);
        Check.due("the least int", x.gaveValue(0), -2147483648L);
        x.event(0, 0, 0, Check.MAX);
        Check.due("the greatest int", x.gaveValue(0), 2147483647L);
        x.burst(0, 2000, 0, 0, Check.MAX);
        Check.due("one more", x.gaveValue(0), 2147483648L);
        WindowMill y = Check.mill(Check.MAP, Check.MIN, 0);
        y.stage(Check.MAP, -2, 0);
        y.stage(Check.MAP, 1, -1);
        y.stage(Check.FIXED, 10, 0);
        y.window(3, Check.LEAST, 0, 1);
        Check.feedAll(y, new int[][] {{1, 8}, {2, 9}, {3, 9}, {3, 10}});
        y.event(0, 0, 0, Check.MIN);
        Check.due("2 to the 62", y.gaveValue(0), 1L << 62);
        Check.due("the least long", y.gaveValue(1), Long.MIN_VALUE);
        Check.due("the greatest long", y.gaveValue(2), Long.MAX_VALUE);
        Check.dueRows(y, 0, "+3 0 0..10 9223372036854775807", "-3 0 0..10 9223372036854775807",
                "+3 0 0..10 -9223372036854775808");
    }

    @Says("PORTS 0 .. 7 take them")
    static void ports() {
        WindowMill x = Check.merges(8);
        for (int port = 0; port <= 7; port++) {
            Check.due("feed(" + port + ", " + port + ")", x.feed(port, port), 1);
        }
        for (int port = 0; port <= 7; port++) {
            Check.due("event to port " + port, x.event(port, 100 + port, port, 0), 0);
        }
        for (int port = 0; port <= 7; port++) {
            Check.due("what came by port " + port, x.about(port, 2), 1);
            Check.due("its KEY", x.gave(port, 0), 100 + port);
        }
        for (int port : new int[] {Check.MIN, -1, 8, Check.MAX}) {
            Check.due("event to port " + port, x.event(port, 1, 1, 1), Check.NONE);
        }
        Check.due("events told", x.count(1), 8);
    }

    @Says("each has a MARK, 0 at first, at most 200000:")
    static void marksOfPorts() {
        WindowMill x = new WindowMill();
        for (int port = 0; port <= 7; port++) {
            Check.due("MARK of port " + port + " at first", x.markOf(port), 0);
            Check.due("mark 200001", x.mark(port, 200001), Check.NONE);
            Check.due("MARK after that", x.markOf(port), 0);
            Check.due("mark 199999", x.mark(port, 199999), 0);
            Check.due("MARK 199999", x.markOf(port), 199999);
            Check.due("mark 200000", x.mark(port, 200000), 0);
            Check.due("MARK 200000", x.markOf(port), 200000);
            Check.due("mark 200001 behind it", x.mark(port, 200001), Check.NONE);
            Check.due("MARK stays", x.markOf(port), 200000);
        }
    }

    @Says("a promise that nothing older comes there any more (an event may break it).")
    static void olderThanTheMark() {
        WindowMill x = Check.mill(Check.FIXED, 10, 0, Check.HOW_MANY, 100, 0);
        x.mark(0, 25);
        Check.due("event at the MARK", x.event(0, 1, 25, 0), 0);
        Check.due("event one older", x.event(0, 1, 24, 0), 0);
        Check.due("event of MINUTE 0", x.event(0, 1, 0, 0), 1);
        Check.due("all came", x.about(0, 2), 3);
        Check.due("none DROPPED", x.about(0, 3), 0);
        Check.due("MARK of the port", x.markOf(0), 25);
        Check.due("MARK of the stage", x.about(0, 1), 25);
    }

    @Says("STAGES have the numbers 0 .. 15, as they were made.")
    static void numbersOfStages() {
        int[] kinds = {6, 0, 5, 1, 4, 2, 3, 0, 6, 1, 5, 2, 4, 3, 0, 6};
        WindowMill x = new WindowMill();
        for (int s = 0; s <= 15; s++) {
            Check.due("about(" + s + ", 0), not made yet", x.about(s, 0), Check.NONE);
            Check.due("stage " + s, x.stage(kinds[s], 4, 1), s);
        }
        Check.due("a stage 16", x.stage(Check.MERGE, 0, 0), Check.FULL);
        for (int s = 0; s <= 15; s++) {
            Check.due("KIND of stage " + s, x.about(s, 0), kinds[s]);
        }
        Check.due("about(16, 0)", x.about(16, 0), Check.NONE);
        Check.due("about(-1, 0)", x.about(-1, 0), Check.NONE);
    }

    @Says("A stage is FED by ports and by stages ahead of it (numbers less than its own);")
    static void fedByWhatIsAhead() {
        WindowMill x = Check.merges(16);
        Check.due("stage 0 by port 0", x.feed(0, 0), 1);
        Check.due("stage 0 by itself", x.feed(0, 8), Check.RING);
        for (int s = 1; s <= 15; s++) {
            Check.due("stage " + s + " by the one ahead", x.feed(s, 8 + s - 1), 1);
            Check.due("stage " + s + " by itself", x.feed(s, 8 + s), Check.RING);
            Check.due("stage " + (s - 1) + " by the one behind", x.feed(s - 1, 8 + s), Check.RING);
        }
        Check.due("stage 0 by the last", x.feed(0, 8 + 15), Check.RING);
        Check.due("stage 15 by the first", x.feed(15, 8), 2);
        Check.due("stage 15 by port 7", x.feed(15, 7), 3);
        x.event(0, 1, 1, 1);
        Check.due("the last of the chain", x.about(14, 2), 1);
        Check.due("and of the chain and the first", x.about(15, 2), 2);
    }

    @Says("each of these feeds any number of stages.")
    static void feedsAnyNumber() {
        WindowMill x = Check.merges(16);
        for (int s = 0; s <= 15; s++) {
            Check.due("stage " + s + " by port 0", x.feed(s, 0), 1);
        }
        x.event(0, 1, 1, 1);
        WindowMill y = Check.merges(16);
        y.feed(0, 7);
        for (int s = 1; s <= 15; s++) {
            Check.due("stage " + s + " by stage 0", y.feed(s, 8), 1);
        }
        y.event(7, 1, 1, 1);
        for (int s = 0; s <= 15; s++) {
            Check.due("one came by the port to stage " + s, x.about(s, 2), 1);
            Check.due("one came by stage 0 to stage " + s, y.about(s, 2), 1);
        }
        Check.due("a port that feeds none", x.event(1, 1, 1, 1), 0);
    }

    /** Stage 1 is fed by the port and by stage 0; the rows of 2 and 3 show which of these came first. */
    @Says({"Events go on at once: from a port or stage to all stages that it feeds, the least number first,",
        "each with all that comes of it ahead of the next one."})
    static void eventsGoOn() {
        WindowMill x = new WindowMill();
        x.stage(Check.MAP, 10, 0);
        x.stage(Check.MERGE, 0, 0);
        x.stage(Check.FIXED, 10, 0);
        x.stage(Check.FIXED, 10, 0);
        x.window(2, Check.TOGETHER, 0, 1);
        x.window(3, Check.TOGETHER, 0, 1);
        Check.feedAll(x, new int[][] {{3, 8}, {2, 9}, {1, 0}, {1, 8}, {0, 0}});
        Check.due("at once", x.event(0, 7, 3, 2), 4);
        Check.dueRows(x, 0, "+2 7 0..10 20", "+3 7 0..10 20", "-2 7 0..10 20", "+2 7 0..10 22");
        Check.due("the latest that 1 gave is the port's", x.gaveValue(1), 2);
    }

    @Says("A port is IDLE or not (at first).")
    static void portIsNotIdleAtFirst() {
        WindowMill x = Check.merges(8);
        for (int port = 0; port <= 7; port++) {
            x.feed(port, port);
            Check.due("what port " + port + " feeds is IDLE", x.about(port, 7), 0);
            Check.due("port " + port + " was IDLE at first", x.idle(port, 1), 0);
            Check.due("what it feeds is IDLE now", x.about(port, 7), 1);
            Check.due("port " + port + " was IDLE", x.idle(port, 0), 1);
            Check.due("what it feeds is IDLE no more", x.about(port, 7), 0);
        }
    }

    @Says("A stage is IDLE if all that feeds it is (also if nothing does).")
    static void stageIsIdle() {
        WindowMill x = Check.merges(3);
        Check.due("nothing feeds it", x.about(1, 7), 1);
        x.feed(1, 8);
        Check.due("only an IDLE stage feeds it", x.about(1, 7), 1);
        Check.feedAll(x, new int[][] {{0, 0}, {0, 3}, {2, 9}, {2, 4}});
        Check.due("two ports feed it", x.about(0, 7), 0);
        Check.due("and further on", x.about(1, 7), 0);
        x.idle(0, 1);
        Check.due("one of two is IDLE", x.about(0, 7), 0);
        x.idle(3, 1);
        Check.due("both are IDLE", x.about(0, 7), 1);
        Check.due("both, further on", x.about(1, 7), 1);
        Check.due("but stage 2 has port 4", x.about(2, 7), 0);
        x.idle(4, 1);
        Check.due("an IDLE stage and an IDLE port", x.about(2, 7), 1);
        x.idle(0, 0);
        Check.due("one of two again", x.about(0, 7), 0);
        Check.due("and furthest on", x.about(2, 7), 0);
    }

    @Says("The MARK of a stage, 0 at first:")
    static void markOfAStageAtFirst() {
        WindowMill x = new WindowMill();
        x.mark(0, 50);
        for (int kind = 0; kind <= 6; kind++) {
            x.stage(kind, 1, 1);
            Check.due("KIND " + kind + ", fed by nothing", x.about(kind, 1), 0);
            x.feed(kind, 1);
            Check.due("KIND " + kind + ", fed by a port at 0", x.about(kind, 1), 0);
        }
    }

    @Says("whenever a mark or what is IDLE changes, or what feeds it, it becomes,")
    static void aMarkChanges() {
        WindowMill x = Check.mill(Check.FIXED, 10, 0);
        x.event(0, 4, 9, 0);
        Check.due("mark(0, 9)", x.mark(0, 9), 0);
        Check.due("MARK 9", x.about(0, 1), 9);
        Check.due("mark(0, 10)", x.mark(0, 10), 1);
        Check.due("MARK 10", x.about(0, 1), 10);
    }

    @Says("whenever a mark or what is IDLE changes, or what feeds it, it becomes,")
    static void whatIsIdleChanges() {
        WindowMill x = Check.mill(Check.FIXED, 10, 0);
        x.feed(0, 1);
        x.event(0, 4, 9, 0);
        x.mark(0, 30);
        Check.due("MARK while port 1 is at 0", x.about(0, 1), 0);
        x.idle(1, 1);
        Check.due("MARK without port 1", x.about(0, 1), 30);
        Check.dueRows(x, 0, "+0 4 0..10 1");
        WindowMill y = Check.mill(Check.MERGE, 0, 0);
        y.idle(0, 1);
        y.mark(0, 40);
        Check.due("MARK while all is IDLE", y.about(0, 1), 0);
        y.idle(0, 0);
        Check.due("MARK when the port is not IDLE any more", y.about(0, 1), 40);
    }

    @Says("whenever a mark or what is IDLE changes, or what feeds it, it becomes,")
    static void whatFeedsChanges() {
        WindowMill x = new WindowMill();
        x.stage(Check.MERGE, 0, 0);
        x.stage(Check.FIXED, 10, 0);
        x.mark(1, 50);
        x.idle(0, 1);
        Check.feedAll(x, new int[][] {{1, 0}, {1, 8}});
        x.event(0, 4, 3, 0);
        Check.due("all that feeds it is IDLE", x.about(1, 1), 0);
        Check.due("stage 0 by port 1", x.feed(0, 1), 1);
        Check.due("its MARK", x.about(0, 1), 50);
        Check.due("and that of what it feeds", x.about(1, 1), 50);
        Check.dueRows(x, 0, "+1 4 0..10 1");
    }

    @Says("for the stages in rising order,")
    static void marksInRisingOrder() {
        WindowMill x = Check.merges(2);
        x.stage(Check.FIXED, 20, 0);
        x.stage(Check.FIXED, 10, 0);
        Check.feedAll(x, new int[][] {{3, 0}, {2, 9}, {1, 8}, {0, 0}});
        x.event(0, 1, 5, 0);
        Check.due("one mark goes through all", x.mark(0, 20), 2);
        for (int s = 0; s <= 3; s++) {
            Check.due("MARK of stage " + s, x.about(s, 1), 20);
        }
        Check.dueRows(x, 0, "+2 1 0..20 1", "+3 1 0..10 1");
    }

    @Says("the least MARK of those that feed it and are not IDLE,")
    static void leastOfThoseNotIdle() {
        WindowMill x = Check.merges(3);
        Check.feedAll(x, new int[][] {{0, 0}, {0, 1}, {1, 2}, {2, 8}, {2, 9}});
        x.mark(0, 10);
        Check.due("of 10 and 0", x.about(0, 1), 0);
        x.mark(1, 20);
        Check.due("of 10 and 20", x.about(0, 1), 10);
        Check.due("further on, of 10 and 0", x.about(2, 1), 0);
        x.mark(2, 15);
        Check.due("of 10 and 15", x.about(2, 1), 10);
        x.idle(0, 1);
        Check.due("of 20 alone", x.about(0, 1), 20);
        Check.due("of 20 and 15", x.about(2, 1), 15);
        x.idle(2, 1);
        Check.due("of 20, as stage 1 is IDLE", x.about(2, 1), 20);
        x.idle(1, 1);
        x.mark(1, 90);
        x.mark(2, 80);
        Check.due("of none", x.about(0, 1), 20);
        Check.due("of none further on", x.about(2, 1), 20);
    }

    @Says("if that is more than it was; it never goes back.")
    static void markNeverGoesBack() {
        WindowMill x = Check.merges(2);
        Check.feedAll(x, new int[][] {{0, 0}, {0, 1}, {1, 8}});
        x.mark(0, 10);
        x.mark(1, 20);
        x.idle(0, 1);
        Check.due("20", x.about(0, 1), 20);
        x.idle(0, 0);
        Check.due("not back to 10", x.about(0, 1), 20);
        x.feed(0, 2);
        Check.due("not back to 0", x.about(0, 1), 20);
        Check.due("nor further on", x.about(1, 1), 20);
        x.idle(2, 1);
        x.mark(1, 40);
        x.mark(0, 19);
        Check.due("19 is less", x.about(0, 1), 20);
        x.mark(0, 20);
        Check.due("20 is the same", x.about(0, 1), 20);
        x.mark(0, 21);
        Check.due("21 is more", x.about(0, 1), 21);
        Check.due("and further on", x.about(1, 1), 21);
    }

    /** Stages 0 to 4, with 1, 2, 4, 8 and 16 ways from port 0: 31 together. */
    private static WindowMill with31Ways() {
        WindowMill x = Check.merges(5);
        for (int s = 0; s <= 4; s++) {
            Check.due("stage " + s + " by port 0", x.feed(s, 0), 1);
            for (int ahead = 0; ahead < s; ahead++) {
                Check.due("stage " + s + " by stage " + ahead, x.feed(s, 8 + ahead), ahead + 2);
            }
        }
        x.stage(Check.MERGE, 0, 0);
        return x;
    }

    @Says({"WAYS of a port: how many ways lead from it, along feedings, to a stage:", "to all stages together at most 32,"})
    static void waysToAllStages() {
        WindowMill x = with31Ways();
        Check.due("two more than 31", x.feed(5, 8 + 1), Check.FULL);
        Check.due("one more, 32", x.feed(5, 8), 1);
        Check.due("one more, 33", x.feed(5, 0), Check.FULL);
        Check.due("another port has its own", x.feed(5, 1), 2);
        Check.due("how many feed it", x.about(5, 6), 2);
        x.stage(Check.FIXED, 10, 0);
        Check.due("ways to windows are among them", x.feed(6, 8), Check.FULL);
        WindowMill y = with31Ways();
        y.stage(Check.SESSION, 1, 0);
        Check.due("the last of 32 to windows", y.feed(6, 0), 1);
        Check.due("and one more to others", y.feed(5, 8), Check.FULL);
    }

    @Says({"WAYS of a port: how many ways lead from it, along feedings, to a stage:", "to all stages together at most 32,"})
    static void waysThatLieBehind() {
        WindowMill x = new WindowMill();
        for (int s = 0; s <= 15; s++) {
            x.stage(Check.MERGE, 0, 0);
            for (int from = 0; from < s; from++) {
                Check.due("no port, no ways", x.feed(s, 8 + from), from + 1);
            }
        }
        Check.due("2 to the 15", x.feed(0, 0), Check.FULL);
        Check.due("1, 1, 2, 4, 8, 16, 32", x.feed(9, 7), Check.FULL);
        Check.due("1, 1, 2, 4, 8, 16: 32", x.feed(10, 7), 11);
        Check.due("one more to the last", x.feed(15, 7), Check.FULL);
        Check.due("port 6 has ways of its own", x.feed(11, 6), 12);
        Check.due("16 and 16", x.feed(11, 5), 13);
        Check.due("to 32", x.feed(12, 5), 13);
    }

    @Says("to those of KINDS 4 to 6 at most 4.")
    static void waysToWindows() {
        WindowMill x = new WindowMill();
        for (int s = 0; s <= 4; s++) {
            x.stage(s < 3 ? Check.FIXED + s : Check.FIXED, 4, 4);
        }
        for (int s = 0; s <= 3; s++) {
            Check.due("way " + (s + 1), x.feed(s, 0), 1);
        }
        Check.due("a fifth", x.feed(4, 0), Check.FULL);
        Check.due("the first of another port", x.feed(4, 1), 1);
        x.stage(Check.MERGE, 0, 0);
        Check.due("one to no window", x.feed(5, 0), 1);
    }

    @Says("to those of KINDS 4 to 6 at most 4.")
    static void waysToOneWindowStage() {
        for (int kind = Check.FIXED; kind <= Check.SESSION; kind++) {
            WindowMill x = Check.merges(5);
            x.stage(kind, 4, 4);
            for (int s = 1; s <= 4; s++) {
                Check.feedAll(x, new int[][] {{s, 8}, {5, 8 + s}});
            }
            Check.due("four from port 0 on", x.feed(0, 0), 1);
            Check.due("a fifth by the way", x.feed(3, 0), Check.FULL);
            Check.due("a fifth", x.feed(5, 0), Check.FULL);
            Check.due("port 1 by a stage", x.feed(3, 1), 2);
            Check.due("port 1 by all", x.feed(0, 1), Check.FULL);
            Check.due("how many feed stage 0", x.about(0, 6), 1);
            x.event(0, 1, 1, 1);
            Check.due("what came", x.about(5, 2), 4);
        }
    }

    @Says("(A stage is given an event once for each way.)")
    static void onceForEachWay() {
        WindowMill x = with31Ways();
        x.event(0, 0, 0, 0);
        for (int s = 0; s <= 4; s++) {
            Check.due("to stage " + s, x.about(s, 2), 1 << s);
        }
        Check.due("to one that is not fed", x.about(5, 2), 0);
        Check.due("told once", x.count(1), 1);
        WindowMill y = Check.merges(2);
        y.stage(Check.FIXED, 10, 0);
        y.window(2, Check.TOGETHER, 0, 0);
        Check.feedAll(y, new int[][] {{0, 0}, {1, 0}, {2, 0}, {2, 8}, {2, 9}});
        y.event(0, 3, 5, 7);
        y.mark(0, 10);
        Check.dueRows(y, 0, "+2 3 0..10 21");
    }

    public static void main(String[] args) {
        Check.runAll(EventsTest.class);
    }
}
