/** What the tests share: due answers, rows as text, and mills that are ready to be used. */
final class Check {
    static final int MIN = Integer.MIN_VALUE, MAX = Integer.MAX_VALUE;
    static final int KEEP = 0, MAP = 1, MERGE = 2, KEYED = 3, FIXED = 4, SLIDING = 5, SESSION = 6;
    static final int HOW_MANY = 0, TOGETHER = 1, LEAST = 2, GREATEST = 3, DIFFERENT = 4, MIDDLE = 5;

    private static int asked = 0;
    private static int wrong = 0;

    private Check() {
    }

    static void due(String call, long got, long want) {
        dueText(call, Long.toString(got), Long.toString(want));
    }

    static void dueText(String call, String got, String want) {
        asked++;
        if (!got.equals(want)) {
            wrong++;
            System.out.println(call + " answered " + got + ", due is " + want);
        }
    }

    /** A row as "+stage key begin..end sum", with - for BACK. */
    static String shown(WindowMill x, int i) {
        return (x.row(i, 0) == 1 ? "-" : "+") + x.row(i, 1) + " " + x.row(i, 2) + " " + x.row(i, 3) + ".."
                + x.row(i, 4) + " " + x.sum(i);
    }

    /** All rows from the first on, and no other ones. */
    static void dueRows(String run, WindowMill x, int first, String... want) {
        due(run + ": rows()", x.rows(), first + want.length);
        for (int i = 0; i < want.length; i++) {
            dueText(run + ": row " + (first + i), shown(x, first + i), want[i]);
        }
    }

    static void dueLeft(String run, WindowMill x, int stage, String... want) {
        due(run + ": left", x.left(stage), want.length);
        for (int i = 0; i < want.length; i++) {
            dueText(run + ": left row " + i, shown(x, x.leftRow(stage, i)), want[i]);
        }
        due(run + ": leftRow behind the last", x.leftRow(stage, want.length), -1);
        due(run + ": apart", x.apart(stage), 0);
    }

    /** A mill whose stage 0 is of this kind, and fed by port 0. */
    static WindowMill mill(int kind, int a, int b) {
        WindowMill x = new WindowMill();
        due("stage(" + kind + ", " + a + ", " + b + ")", x.stage(kind, a, b), 0);
        due("feed(0, 0)", x.feed(0, 0), 1);
        return x;
    }

    static WindowMill mill(int kind, int a, int b, int sum, int lateness, int early) {
        WindowMill x = mill(kind, a, b);
        due("window(0, " + sum + ", " + lateness + ", " + early + ")", x.window(0, sum, lateness, early), 1);
        return x;
    }

    static void end(String test) {
        System.out.println(test + ": " + (asked - wrong) + " of " + asked + " answers are as due");
        if (wrong != 0 || asked == 0) {
            System.exit(1);
        }
    }
}
