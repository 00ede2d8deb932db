import java.util.List;
import java.util.Random;
import java.util.TreeSet;

/** Runs of calls, drawn from fixed seeds, on the class and on PlainMill: both must answer the same. */
public final class PlainMillTest {
    private static final int RUNS = 800, CALLS = 250;
    private final Random draw;
    private final int seed;
    private final WindowMill x = new WindowMill();
    private final PlainMill plain = new PlainMill();
    private final int minutes;
    private final int keys;
    private String call = "new";

    private PlainMillTest(int seed) {
        this.seed = seed;
        draw = new Random(seed);
        minutes = new int[] {12, 60, 400, 100001}[draw.nextInt(4)];
        keys = new int[] {1, 3, 30, 1000}[draw.nextInt(4)];
    }

    private void due(String what, long got, long want) {
        Check.due("seed " + seed + ": " + call + ": " + what, got, want);
    }

    private int upTo(int most) {
        return draw.nextInt(most + 1);
    }

    private int width() {
        return 1 + upTo(Math.min(9999, draw.nextBoolean() ? 5 : minutes / 3 + 1));
    }

    private void stage() {
        int kind = draw.nextInt(10);
        kind = kind > 6 ? kind - 3 : kind;
        int a = kind < 3 ? upTo(8) - 4 : kind == 3 ? 1 + upTo(keys - 1) : kind == 6 ? width() - 1 : width();
        int b = kind == 5 ? (a + 3) / 4 + upTo(a - (a + 3) / 4) : kind == 0 ? upTo(3) : upTo(8) - 4;
        call = "stage(" + kind + ", " + a + ", " + b + ")";
        due("answer", x.stage(kind, a, b), plain.stage(kind, a, b));
    }

    private void feed() {
        int stage = upTo(plain.stages.size());
        int from = draw.nextInt(3) > 0 ? upTo(2) : upTo(8 + stage);
        call = "feed(" + stage + ", " + from + ")";
        due("answer", x.feed(stage, from), plain.feed(stage, from));
    }

    private void window() {
        int stage = upTo(plain.stages.size());
        int sum = upTo(5);
        int lateness = draw.nextBoolean() ? upTo(3) : upTo(minutes - 1);
        int early = draw.nextBoolean() ? 0 : upTo(4);
        call = "window(" + stage + ", " + sum + ", " + lateness + ", " + early + ")";
        due("answer", x.window(stage, sum, lateness, early), plain.window(stage, sum, lateness, early));
    }

    private int minute() {
        return draw.nextInt(minutes);
    }

    private int value() {
        return draw.nextInt(3) == 0 ? draw.nextInt() : upTo(12) - 6;
    }

    private void event() {
        int port = upTo(2);
        int key = draw.nextInt(keys);
        int minute = minute();
        int value = value();
        call = "event(" + port + ", " + key + ", " + minute + ", " + value + ")";
        due("answer", x.event(port, key, minute, value), plain.event(port, key, minute, value));
    }

    private void burst() {
        int port = upTo(2);
        int n = 1 + upTo(draw.nextInt(20) == 0 ? 199 : 6);
        int key = draw.nextInt(keys);
        int minute = minute();
        int step = upTo(8) - 4;
        int value = value();
        call = "burst(" + port + ", " + (1000 * n + key) + ", " + minute + ", " + step + ", " + value + ")";
        due("answer", x.burst(port, 1000 * n + key, minute, step, value),
                plain.burst(port, n, key, minute, step, value));
    }

    private void mark() {
        int port = upTo(2);
        int m = plain.marks[port] + upTo(draw.nextBoolean() ? 4 : minutes / 8 + 1) - (draw.nextInt(9) == 0 ? 1 : 0);
        m = Math.max(0, Math.min(200000, m));
        call = "mark(" + port + ", " + m + ")";
        due("answer", x.mark(port, m), plain.mark(port, m));
    }

    private void idle() {
        int port = upTo(2);
        int is = upTo(1);
        call = "idle(" + port + ", " + is + ")";
        due("answer", x.idle(port, is), plain.idle(port, is));
    }

    private void compareRows(int first) {
        due("rows", x.rows(), plain.rows.size());
        for (int i = first; i < plain.rows.size(); i++) {
            PlainMill.Row row = plain.rows.get(i);
            Check.dueText("seed " + seed + ": " + call + ": row " + i, Check.shown(x, i), (row.isBack() ? "-" : "+")
                    + row.stage() + " " + row.key() + " " + row.begin() + ".." + row.end() + " " + row.sum());
        }
    }

    private void compareStage(int s) {
        PlainMill.Plain stage = plain.stages.get(s);
        int[] want = {
            stage.kind, stage.mark, stage.came, stage.dropped, plain.open(s), plain.held(s), stage.fedBy.size(),
            plain.isIdle(8 + s) ? 1 : 0};
        for (int what = 0; what < want.length; what++) {
            due("about(" + s + ", " + what + ")", x.about(s, what), want[what]);
        }
        due("gave(" + s + ", 0)", x.gave(s, 0), stage.gave == null ? -1 : stage.gave.key());
        due("gave(" + s + ", 1)", x.gave(s, 1), stage.gave == null ? -1 : stage.gave.minute());
        due("gaveValue(" + s + ")", x.gaveValue(s), stage.gave == null ? 0 : stage.gave.value());
        due("apart(" + s + ")", x.apart(s), stage.kind < 4 ? -2 : 0);
        if (stage.kind < 4) {
            due("left(" + s + ")", x.left(s), -2);
            return;
        }
        List<Integer> left = plain.leftOf(s);
        due("left(" + s + ")", x.left(s), left.size());
        for (int i = 0; i <= left.size(); i++) {
            due("leftRow(" + s + ", " + i + ")", x.leftRow(s, i), i < left.size() ? left.get(i) : -1);
        }
        compareTable(s);
    }

    /** The rows LEFT that have ended must be just those of the table of all events. */
    private void compareTable(int s) {
        TreeSet<String> ended = new TreeSet<>();
        for (int i = 0; i < x.left(s); i++) {
            int row = x.leftRow(s, i);
            if (x.row(row, 4) <= x.about(s, 1)) {
                ended.add(x.row(row, 2) + " " + x.row(row, 3) + " " + x.row(row, 4) + " " + x.sum(row));
            }
        }
        Check.dueText("seed " + seed + ": " + call + ": table of " + s, ended.toString(), plain.ended(s).toString());
    }

    private void compareAll() {
        int open = 0;
        for (int s = 0; s < plain.stages.size(); s++) {
            compareStage(s);
            open += plain.open(s);
        }
        due("count(0)", x.count(0), plain.stages.size());
        due("count(1)", x.count(1), plain.told);
        due("count(2)", x.count(2), open);
        for (int port = 0; port < 8; port++) {
            due("markOf(" + port + ")", x.markOf(port), plain.marks[port]);
        }
    }

    private void anyCall(int i) {
        int drawn = draw.nextInt(i < 40 ? 14 : 40);
        switch (drawn) {
            case 0, 1, 2 -> stage();
            case 3, 4, 5, 6, 7 -> feed();
            case 8, 9 -> window();
            case 10, 11, 12 -> mark();
            case 13, 14, 15 -> event();
            case 16, 17, 18, 19, 20, 21, 22, 23 -> burst();
            case 24, 25, 26, 27, 28 -> mark();
            case 29, 30 -> idle();
            default -> event();
        }
    }

    private void run() {
        for (int i = 0; i < CALLS; i++) {
            int first = plain.rows.size();
            anyCall(i);
            compareRows(first);
            if (i % 50 == 49) {
                compareAll();
            }
        }
    }

    public static void main(String[] args) {
        int runs = args.length > 0 ? Integer.parseInt(args[0]) : RUNS;
        for (int seed = 0; seed < runs; seed++) {
            new PlainMillTest(seed).run();
        }
        Check.end("PlainMillTest");
    }
}
