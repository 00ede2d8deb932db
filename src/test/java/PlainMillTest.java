import java.util.List;
import java.util.Random;
import java.util.TreeSet;
import java.util.function.ToIntFunction;

/** Runs of calls, drawn from fixed seeds, on the class and on PlainMill: both must answer the same. */
public final class PlainMillTest {
    private static final int RUNS = 800, CALLS = 250, BUILDING = 40;
    private final Random draw;
    private final int seed;
    private final LongMill x = new LongMill();
    private final PlainMill plain = new PlainMill();
    private final int minutes;
    private final int keys;
    private String call = "new";

    private PlainMillTest(int seed) {
        this.seed = seed;
        draw = new Random(seed);
        minutes = new int[] {12, 60, 400, 100001}[draw.nextInt(4)];
        keys = new int[] {1, 3, 30, 1000}[draw.nextInt(4)];
    }

    private void due(String what, long got, long want) {
        Check.due("seed " + seed + ": " + call + ": " + what, got, want);
    }

    private void dueTold(String name, ToIntFunction<WindowMill> told, int want) {
        call = name;
        due("answer", x.tell(told), want);
    }

    private int upTo(int most) {
        return draw.nextInt(most + 1);
    }

    private int width() {
        return 1 + upTo(Math.min(9999, draw.nextBoolean() ? 5 : minutes / 3 + 1));
    }

    private void stage() {
        int drawn = draw.nextInt(10);
        int kind = drawn > 6 ? drawn - 3 : drawn;
        int a = kind < 3 ? upTo(8) - 4 : kind == 3 ? 1 + upTo(keys - 1) : kind == 6 ? width() - 1 : width();
        int b = kind == 5 ? (a + 3) / 4 + upTo(a - (a + 3) / 4) : kind == 0 ? upTo(3) : upTo(8) - 4;
        dueTold("stage(" + kind + ", " + a + ", " + b + ")", m -> m.stage(kind, a, b), plain.stage(kind, a, b));
    }

    private void feed() {
        int stage = upTo(plain.stages.size());
        int from = draw.nextInt(3) > 0 ? upTo(2) : upTo(8 + stage);
        dueTold("feed(" + stage + ", " + from + ")", m -> m.feed(stage, from), plain.feed(stage, from));
    }

    private void window() {
        int stage = upTo(plain.stages.size());
        int sum = upTo(5);
        int lateness = draw.nextBoolean() ? upTo(3) : upTo(minutes - 1);
        int early = draw.nextBoolean() ? 0 : upTo(4);
        dueTold("window(" + stage + ", " + sum + ", " + lateness + ", " + early + ")",
                m -> m.window(stage, sum, lateness, early), plain.window(stage, sum, lateness, early));
    }

    private int minute() {
        return draw.nextInt(minutes);
    }

    private int value() {
        return draw.nextInt(3) == 0 ? draw.nextInt() : upTo(12) - 6;
    }

    private void event() {
        int port = upTo(2);
        int key = draw.nextInt(keys);
        int minute = minute();
        int value = value();
        dueTold("event(" + port + ", " + key + ", " + minute + ", " + value + ")",
                m -> m.event(port, key, minute, value), plain.event(port, key, minute, value));
    }

    private void burst() {
        int port = upTo(2);
        int n = 1 + upTo(draw.nextInt(20) == 0 ? 199 : 6);
        int key = draw.nextInt(keys);
        int minute = minute();
        int step = upTo(8) - 4;
        int value = value();
        dueTold("burst(" + port + ", " + (1000 * n + key) + ", " + minute + ", " + step + ", " + value + ")",
                m -> m.burst(port, 1000 * n + key, minute, step, value), plain.burst(port, n, key, minute, step, value));
    }

    private void mark() {
        int port = upTo(2);
        int to = plain.marks[port] + upTo(draw.nextBoolean() ? 4 : minutes / 8 + 1) - (draw.nextInt(9) == 0 ? 1 : 0);
        int mark = Math.max(0, Math.min(200000, to));
        dueTold("mark(" + port + ", " + mark + ")", m -> m.mark(port, mark), plain.mark(port, mark));
    }

    private void idle() {
        int port = upTo(2);
        int is = upTo(1);
        dueTold("idle(" + port + ", " + is + ")", m -> m.idle(port, is), plain.idle(port, is));
    }

    private void compareRows(int first) {
        due("rows", x.ask(1).rows(), plain.rows.size());
        for (int i = first; i < plain.rows.size(); i++) {
            PlainMill.Row row = plain.rows.get(i);
            Check.dueText("seed " + seed + ": " + call + ": row " + i, Check.shown(x.ask(Check.SHOWN), i),
                    (row.isBack() ? "-" : "+") + row.stage() + " " + row.key() + " " + row.begin() + ".." + row.end()
                    + " " + row.sum());
        }
    }

    private void askAbout(int s, int what) {
        due("about(" + s + ", " + what + ")", x.ask(1).about(s, what), plain.about(s, what));
    }

    private void askGave(int s) {
        PlainMill.Event gave = plain.stages.get(s).gave;
        due("gave(" + s + ", 0)", x.ask(1).gave(s, 0), gave == null ? -1 : gave.key());
        due("gave(" + s + ", 1)", x.ask(1).gave(s, 1), gave == null ? -1 : gave.minute());
        due("gaveValue(" + s + ")", x.ask(1).gaveValue(s), gave == null ? 0 : gave.value());
    }

    private void askLeft(int s) {
        boolean hasRows = plain.stages.get(s).kind >= 4;
        due("left(" + s + ")", x.ask(1).left(s), hasRows ? plain.leftOf(s).size() : -2);
        due("apart(" + s + ")", x.ask(1).apart(s), hasRows ? 0 : -2);
    }

    private void askLeftRow(int s, int i, List<Integer> left) {
        due("leftRow(" + s + ", " + i + ")", x.ask(1).leftRow(s, i), i < left.size() ? left.get(i) : -1);
    }

    private void askCounts() {
        int open = 0;
        for (int s = 0; s < plain.stages.size(); s++) {
            open += plain.open(s);
        }
        due("count(0)", x.ask(1).count(0), plain.stages.size());
        due("count(1)", x.ask(1).count(1), plain.told);
        due("count(2)", x.ask(1).count(2), open);
    }

    private void askMark(int port) {
        due("markOf(" + port + ")", x.ask(1).markOf(port), plain.marks[port]);
    }

    private void compareStage(int s) {
        for (int what = 0; what <= 7; what++) {
            askAbout(s, what);
        }
        askGave(s);
        askLeft(s);
        List<Integer> left = plain.leftOf(s);
        for (int i = 0; i <= left.size(); i++) {
            askLeftRow(s, i, left);
        }
        if (plain.stages.get(s).kind >= 4) {
            compareTable(s, left);
        }
    }

    /** The rows LEFT that have ended must be just those of the table of all events. */
    private void compareTable(int s, List<Integer> left) {
        TreeSet<String> ended = new TreeSet<>();
        for (int row : left) {
            WindowMill m = x.ask(5);
            if (m.row(row, 4) <= plain.stages.get(s).mark) {
                ended.add(m.row(row, 2) + " " + m.row(row, 3) + " " + m.row(row, 4) + " " + m.sum(row));
            }
        }
        Check.dueText("seed " + seed + ": " + call + ": table of " + s, ended.toString(), plain.ended(s).toString());
    }

    private void compareAll() {
        for (int s = 0; s < plain.stages.size(); s++) {
            compareStage(s);
        }
        askCounts();
        for (int port = 0; port < 8; port++) {
            askMark(port);
        }
    }

    private void anyCall(int i) {
        int drawn = draw.nextInt(i < BUILDING ? 14 : 40);
        switch (drawn) {
            case 0, 1, 2 -> stage();
            case 3, 4, 5, 6, 7 -> feed();
            case 8, 9 -> window();
            case 10, 11, 12 -> mark();
            case 13, 14, 15 -> event();
            case 16, 17, 18, 19, 20, 21, 22, 23 -> burst();
            case 24, 25, 26, 27, 28 -> mark();
            case 29, 30 -> idle();
            default -> event();
        }
    }

    private void anyQuestion() {
        int s = draw.nextInt(plain.stages.size());
        switch (draw.nextInt(7)) {
            case 0 -> askAbout(s, upTo(7));
            case 1 -> askGave(s);
            case 2 -> askLeft(s);
            case 3 -> askLeftRow(s, upTo(plain.leftOf(s).size()), plain.leftOf(s));
            case 4 -> askCounts();
            case 5 -> askMark(upTo(7));
            default -> compareRows(plain.rows.size() - Math.min(plain.rows.size(), upTo(1)));
        }
    }

    /** Every row of every call is looked at, and now and then all that can be asked. */
    private void run() {
        for (int i = 0; i < CALLS; i++) {
            int first = plain.rows.size();
            anyCall(i);
            compareRows(first);
            if (i % 50 == 49) {
                compareAll();
            }
        }
    }

    /** One object, told and asked in turn for all of its 512 calls. */
    private void life() {
        for (int i = 0; x.calls() < LongMill.CALLS; i++) {
            boolean isRoomToAsk = x.calls() + Check.SHOWN < LongMill.CALLS;
            if (isRoomToAsk && !plain.stages.isEmpty() && i >= BUILDING && draw.nextInt(3) == 0) {
                anyQuestion();
            } else {
                anyCall(i);
            }
        }
        due("objects used", x.objects(), 1);
    }

    public static void main(String[] args) {
        int runs = args.length > 0 ? Integer.parseInt(args[0]) : RUNS;
        for (int seed = 0; seed < runs; seed++) {
            new PlainMillTest(seed).run();
            new PlainMillTest(seed).life();
        }
        Check.end("PlainMillTest");
    }
}
