/**
 * All that can be seen of a mill, now and when it goes on: calls that follow show what no question shows,
 * as whether a port is IDLE, or what LATENESS and EARLY a stage has.
 */
final class Story {
    private Story() {
    }

    static String of(WindowMill x) {
        StringBuilder text = new StringBuilder();
        addNow(text, x, 0);
        int rows = x.rows();
        addGoingOn(text, x);
        addNow(text, x, rows);
        return text.toString();
    }

    private static void addNow(StringBuilder text, WindowMill x, int firstRow) {
        text.append("counts ").append(x.count(0)).append(' ').append(x.count(1)).append(' ').append(x.count(2));
        text.append(" marks");
        for (int port = 0; port < 8; port++) {
            text.append(' ').append(x.markOf(port));
        }
        for (int s = 0; s < x.count(0); s++) {
            addStage(text, x, s);
        }
        for (int i = firstRow; i < x.rows(); i++) {
            text.append("\n  row ").append(i).append(' ').append(Check.shown(x, i));
        }
    }

    private static void addStage(StringBuilder text, WindowMill x, int s) {
        text.append("\n  stage ").append(s).append(" about");
        for (int what = 0; what <= 7; what++) {
            text.append(' ').append(x.about(s, what));
        }
        text.append(" gave ").append(x.gave(s, 0)).append(' ').append(x.gave(s, 1)).append(' ').append(x.gaveValue(s));
        text.append(" left");
        for (int i = 0; i < x.left(s); i++) {
            text.append(' ').append(x.leftRow(s, i));
        }
    }

    private static void addGoingOn(StringBuilder text, WindowMill x) {
        text.append("\n  goes on");
        for (int port = 0; port < 8; port++) {
            text.append(' ').append(x.event(port, port, 100 + port, 7));
            text.append(' ').append(x.idle(port, 0));
            text.append(' ').append(x.mark(port, 200 - 10 * port));
        }
        text.append('\n');
    }
}
