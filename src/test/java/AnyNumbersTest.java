import java.util.Random;

/** Calls with any numbers in any state, drawn from fixed seeds: none throws, and a refused one changes nothing. */
public final class AnyNumbersTest {
    private static final int RUNS = 300, CALLS = 512;
    private static final int[] NUMBERS = {
        Integer.MIN_VALUE, -100001, -1000, -8, -1, 0, 0, 0, 1, 1, 2, 3, 4, 5, 6, 7, 8, 9, 10, 15, 16, 20, 23, 24, 31, 32,
        199, 200, 999, 1000, 1001, 5007, 2500, 10000, 10001, 99999, 100000, 100001, 110000, 200000, 200001, 200999,
        201000, Integer.MAX_VALUE - 1, Integer.MAX_VALUE};

    private static int any(Random draw) {
        return draw.nextInt(20) == 0 ? draw.nextInt() : NUMBERS[draw.nextInt(NUMBERS.length)];
    }

    /** Any number, but mostly one from 0 on that there is. */
    private static int below(Random draw, int bound) {
        return draw.nextInt(4) == 0 ? any(draw) : draw.nextInt(bound);
    }

    private static String state(WindowMill x) {
        StringBuilder text = new StringBuilder();
        for (int what = 0; what <= 2; what++) {
            text.append(x.count(what)).append(' ');
        }
        text.append(x.rows());
        for (int port = 0; port < 8; port++) {
            text.append(' ').append(x.markOf(port));
        }
        for (int s = 0; s < 16; s++) {
            for (int what = 0; what < 8; what++) {
                text.append(' ').append(x.about(s, what));
            }
            text.append(' ').append(x.left(s)).append(' ').append(x.gave(s, 0)).append(' ').append(x.gaveValue(s));
        }
        return text.toString();
    }

    private static int change(WindowMill x, Random d) {
        switch (d.nextInt(7)) {
            case 0: return x.stage(below(d, 7), any(d), any(d));
            case 1: return x.feed(below(d, 16), below(d, 24));
            case 2: return x.window(below(d, 16), below(d, 6), any(d), any(d));
            case 3: return x.event(below(d, 8), below(d, 1000), below(d, 100001), any(d));
            case 4: return x.burst(below(d, 8), below(d, 201000), below(d, 100001), any(d), any(d));
            case 5: return x.mark(below(d, 8), below(d, 200001) >> d.nextInt(8));
            default: return x.idle(below(d, 8), below(d, 2));
        }
    }

    private static void ask(WindowMill x, Random d) {
        x.row(any(d), any(d));
        x.sum(any(d));
        x.left(any(d));
        x.leftRow(below(d, 16), any(d));
        x.about(any(d), any(d));
        x.gave(any(d), any(d));
        x.gaveValue(any(d));
        x.apart(below(d, 16));
        x.count(any(d));
        x.markOf(any(d));
    }

    private static void run(int seed) {
        Random draw = new Random(seed);
        WindowMill x = new WindowMill();
        for (int i = 0; i < CALLS; i++) {
            String before = state(x);
            if (change(x, draw) < 0) {
                Check.dueText("seed " + seed + ", call " + i + ": what is refused", state(x), before);
            }
            ask(x, draw);
        }
        for (int s = 0; s < x.count(0); s++) {
            Check.due("seed " + seed + ": apart(" + s + ")", x.apart(s), x.about(s, 0) < Check.FIXED ? -2 : 0);
        }
    }

    public static void main(String[] args) {
        for (int seed = 0; seed < RUNS; seed++) {
            run(seed);
        }
        Check.end("AnyNumbersTest");
    }
}
