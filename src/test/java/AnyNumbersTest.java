import java.util.Random;
import java.util.function.ToIntFunction;

/** Calls with any numbers in any state, drawn from fixed seeds: none throws, and a refused one changes nothing. */
public final class AnyNumbersTest {
    /** Two calls a turn and the 12 + 16 * 13 of the state are no more than an object's 512. */
    private static final int RUNS = 5000, TURNS = 146;
    private static final int[] NUMBERS = {
        Integer.MIN_VALUE, -100001, -1000, -8, -1, 0, 0, 0, 1, 1, 2, 3, 4, 5, 6, 7, 8, 9, 10, 15, 16, 20, 23, 24, 31, 32,
        199, 200, 999, 1000, 1001, 5007, 2500, 10000, 10001, 99999, 100000, 100001, 110000, 200000, 200001, 200999,
        201000, Integer.MAX_VALUE - 1, Integer.MAX_VALUE};

    private static int any(Random draw) {
        return draw.nextInt(20) == 0 ? draw.nextInt() : NUMBERS[draw.nextInt(NUMBERS.length)];
    }

    /** Any number, but mostly one from 0 on that there is. */
    private static int below(Random draw, int bound) {
        return draw.nextInt(4) == 0 ? any(draw) : draw.nextInt(bound);
    }

    private static String state(WindowMill x) {
        StringBuilder text = new StringBuilder();
        for (int what = 0; what <= 2; what++) {
            text.append(x.count(what)).append(' ');
        }
        text.append(x.rows());
        for (int port = 0; port < 8; port++) {
            text.append(' ').append(x.markOf(port));
        }
        for (int s = 0; s < 16; s++) {
            for (int what = 0; what < 8; what++) {
                text.append(' ').append(x.about(s, what));
            }
            text.append(' ').append(x.left(s)).append(' ').append(x.leftRow(s, 0));
            text.append(' ').append(x.gave(s, 0)).append(' ').append(x.gaveValue(s));
            int apart = x.apart(s);
            Check.due("apart(" + s + ") is 0 or refused", apart == 0 || apart == -1 || apart == -2 ? 1 : 0, 1);
        }
        return text.toString();
    }

    /** A call that may change the mill, with any numbers. */
    private static ToIntFunction<WindowMill> change(Random d) {
        int[] n = {any(d), any(d), any(d)};
        int stage = below(d, 16);
        int port = below(d, 8);
        int key = below(d, 1000);
        int minute = below(d, 100001);
        switch (d.nextInt(7)) {
            case 0: int kind = below(d, 7); return x -> x.stage(kind, n[0], n[1]);
            case 1: int from = below(d, 24); return x -> x.feed(stage, from);
            case 2: int sum = below(d, 6); return x -> x.window(stage, sum, n[0], n[1]);
            case 3: return x -> x.event(port, key, minute, n[0]);
            case 4: int many = below(d, 201000); return x -> x.burst(port, many, minute, n[0], n[1]);
            case 5: int mark = below(d, 200001) >> d.nextInt(8); return x -> x.mark(port, mark);
            default: int is = below(d, 2); return x -> x.idle(port, is);
        }
    }

    private static void ask(WindowMill x, Random d) {
        switch (d.nextInt(10)) {
            case 0: x.row(any(d), any(d)); break;
            case 1: x.sum(any(d)); break;
            case 2: x.left(any(d)); break;
            case 3: x.leftRow(below(d, 16), any(d)); break;
            case 4: x.about(any(d), any(d)); break;
            case 5: x.gave(any(d), any(d)); break;
            case 6: x.gaveValue(any(d)); break;
            case 7: x.apart(below(d, 16)); break;
            case 8: x.count(any(d)); break;
            default: x.markOf(any(d)); break;
        }
    }

    /** One mill is told and asked all, the other only what was not refused: both must be the same. */
    private static void run(int seed) {
        Random draw = new Random(seed);
        WindowMill x = new WindowMill();
        WindowMill y = new WindowMill();
        for (int i = 0; i < TURNS; i++) {
            ToIntFunction<WindowMill> call = change(draw);
            int answer = call.applyAsInt(x);
            if (answer >= 0) {
                Check.due("seed " + seed + ", call " + i + " without the refused ones", call.applyAsInt(y), answer);
            }
            ask(x, draw);
        }
        Check.dueText("seed " + seed + ": the state without the refused ones", state(y), state(x));
    }

    public static void main(String[] args) {
        for (int seed = 0; seed < RUNS; seed++) {
            run(seed);
        }
        Check.end("AnyNumbersTest");
    }
}
