import java.lang.reflect.InvocationTargetException;
import java.lang.reflect.Method;
import java.util.Arrays;
import java.util.Comparator;
import java.util.function.Supplier;
import java.util.function.ToIntFunction;

/** What the tests share: due answers, rows as text, and mills that are ready to be used. */
final class Check {
    static final int MIN = Integer.MIN_VALUE, MAX = Integer.MAX_VALUE;
    static final int KEEP = 0, MAP = 1, MERGE = 2, KEYED = 3, FIXED = 4, SLIDING = 5, SESSION = 6;
    static final int HOW_MANY = 0, TOGETHER = 1, LEAST = 2, GREATEST = 3, DIFFERENT = 4, MIDDLE = 5;
    static final int NONE = -1, KIND = -2, RING = -3, STARTED = -4, BEHIND = -5, FULL = -6;

    /** How many calls it takes to show a row. */
    static final int SHOWN = 6;

    private static final int LONGEST_SECONDS = 300;
    private static String test = "";
    private static int asked = 0;
    private static int wrong = 0;

    static {
        // A call that never ends must fail its test, not hang it.
        Thread watch = new Thread(Check::endTooLate);
        watch.setDaemon(true);
        watch.start();
    }

    private Check() {
    }

    private static void endTooLate() {
        try {
            Thread.sleep(LONGEST_SECONDS * 1000L);
        } catch (InterruptedException nobodyDoes) {
            return;
        }
        System.out.println(test + "not ended after " + LONGEST_SECONDS + " seconds");
        Runtime.getRuntime().halt(1);
    }

    static void due(String call, long got, long want) {
        dueText(call, Long.toString(got), Long.toString(want));
    }

    static void dueText(String call, String got, String want) {
        asked++;
        if (!got.equals(want)) {
            fail(call + " answered " + got + ", due is " + want);
        }
    }

    private static void fail(String what) {
        wrong++;
        System.out.println(test + what);
    }

    /** A row as "+stage key begin..end sum", with - for BACK. */
    static String shown(WindowMill x, int i) {
        return (x.row(i, 0) == 1 ? "-" : "+") + x.row(i, 1) + " " + x.row(i, 2) + " " + x.row(i, 3) + ".."
                + x.row(i, 4) + " " + x.sum(i);
    }

    /** All rows from the first on, and no other ones. */
    static void dueRows(WindowMill x, int first, String... want) {
        due("rows()", x.rows(), first + want.length);
        for (int i = 0; i < want.length; i++) {
            dueText("row " + (first + i), shown(x, first + i), want[i]);
        }
    }

    static void dueLeft(WindowMill x, int stage, String... want) {
        due("left", x.left(stage), want.length);
        for (int i = 0; i < want.length; i++) {
            dueText("left row " + i, shown(x, x.leftRow(stage, i)), want[i]);
        }
        due("leftRow behind the last", x.leftRow(stage, want.length), NONE);
        due("apart", x.apart(stage), 0);
    }

    /** The call is refused with this answer, and a mill to which it was told goes on as one to which it was not. */
    static void refused(int want, Supplier<WindowMill> made, String name, ToIntFunction<WindowMill> call) {
        WindowMill x = made.get();
        due(name, call.applyAsInt(x), want);
        dueText(name + " is refused: all that can be seen", Story.of(x), Story.of(made.get()));
    }

    /** A mill whose stage 0 is of this kind, and fed by port 0. */
    static WindowMill mill(int kind, int a, int b) {
        WindowMill x = new WindowMill();
        due("stage(" + kind + ", " + a + ", " + b + ")", x.stage(kind, a, b), 0);
        due("feed(0, 0)", x.feed(0, 0), 1);
        return x;
    }

    static WindowMill mill(int kind, int a, int b, int sum, int lateness, int early) {
        WindowMill x = mill(kind, a, b);
        due("window(0, " + sum + ", " + lateness + ", " + early + ")", x.window(0, sum, lateness, early), 1);
        return x;
    }

    static WindowMill merges(int n) {
        WindowMill x = new WindowMill();
        for (int s = 0; s < n; s++) {
            due("stage(2, 0, 0)", x.stage(MERGE, 0, 0), s);
        }
        return x;
    }

    /** Each of these {stage, from} is a feeding that is not refused. */
    static void feedAll(WindowMill x, int[]... feedings) {
        for (int[] c : feedings) {
            int fed = x.about(c[0], 6);
            due("feed(" + c[0] + ", " + c[1] + ")", x.feed(c[0], c[1]), fed + 1);
        }
    }

    /** So many events of KEY 0 and MINUTE 0, in bursts as long as may be. */
    static void tell(WindowMill x, int events) {
        for (int left = events; left > 0; left -= 200) {
            int n = Math.min(left, 200);
            due("burst of " + n, x.burst(0, 1000 * n, 0, 0, 0), n);
        }
    }

    /** Runs all methods that say which words they test. */
    static void runAll(Class<?> type) {
        Method[] methods = type.getDeclaredMethods();
        Arrays.sort(methods, Comparator.comparing(Method::getName));
        for (Method method : methods) {
            if (method.isAnnotationPresent(Says.class)) {
                test = method.getName() + ": ";
                run(method);
            }
        }
        test = "";
        end(type.getName());
    }

    private static void run(Method method) {
        int before = wrong;
        try {
            method.invoke(null);
        } catch (InvocationTargetException e) {
            fail("threw " + e.getCause());
        } catch (IllegalAccessException e) {
            fail("cannot be run");
        }
        if (wrong > before) {
            Says says = method.getAnnotation(Says.class);
            System.out.println("    " + where(says.promise()) + " says: " + String.join(" / ", says.value()));
        }
    }

    /** The section of the document that these words stand in. */
    static String where(int promise) {
        return promise < 0 ? "What it is" : promise == 0 ? "Terms" : "promise " + promise;
    }

    static void end(String name) {
        System.out.println(name + ": " + (asked - wrong) + " of " + asked + " answers are as due");
        if (wrong != 0 || asked == 0) {
            System.exit(1);
        }
    }
}
