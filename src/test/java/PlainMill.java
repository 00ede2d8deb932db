import java.util.ArrayList;
import java.util.Arrays;
import java.util.Comparator;
import java.util.List;
import java.util.TreeMap;
import java.util.TreeSet;

/**
 * The document once more, told as plainly and slowly as can be: every window holds its events, every
 * answer is looked for anew. Calls that are refused for wrong numbers are left to the other tests,
 * but for those that depend on what came before.
 */
final class PlainMill {
    record Event(int key, int minute, long value) {
    }

    record Row(boolean isBack, int stage, int key, int begin, int end, long sum) {
    }

    static final class Pane {
        final int key;
        int begin;
        int end;
        final List<Event> events = new ArrayList<>();
        int row = -1;
        boolean isLetGo;

        Pane(int key, int begin, int end) {
            this.key = key;
            this.begin = begin;
            this.end = end;
        }
    }

    static final class Plain {
        final int kind;
        final int a;
        final int b;
        final TreeSet<Integer> fedBy = new TreeSet<>();
        int sum;
        int lateness;
        int early;
        int mark;
        int came;
        int dropped;
        Event gave;
        final List<Pane> panes = new ArrayList<>();
        /** The table: for each window of KINDS 4 and 5, or each KEY of a SESSION, what was not DROPPED. */
        final TreeMap<String, List<Event>> table = new TreeMap<>();

        Plain(int kind, int a, int b) {
            this.kind = kind;
            this.a = a;
            this.b = b;
        }
    }

    final List<Plain> stages = new ArrayList<>();
    final List<Row> rows = new ArrayList<>();
    final TreeSet<Integer> left = new TreeSet<>();
    final int[] marks = new int[8];
    final boolean[] idle = new boolean[8];
    int told;

    int stage(int kind, int a, int b) {
        if (stages.size() == 16) {
            return -6;
        }
        stages.add(new Plain(kind, a, b));
        return stages.size() - 1;
    }

    int feed(int stage, int from) {
        if (stage >= stages.size() || from - 8 >= stages.size()) {
            return -1;
        }
        Plain fed = stages.get(stage);
        if (from - 8 >= stage || (from >= 8 && stages.get(from - 8).kind >= 4) || fed.fedBy.contains(from)) {
            return -3;
        }
        if (fed.came > 0) {
            return -4;
        }
        fed.fedBy.add(from);
        for (int port = 0; port < 8; port++) {
            int all = 0;
            int toWindows = 0;
            for (int s = 0; s < stages.size(); s++) {
                all += ways(port, s);
                toWindows += stages.get(s).kind >= 4 ? ways(port, s) : 0;
            }
            if (all > 32 || toWindows > 4) {
                fed.fedBy.remove(from);
                return -6;
            }
        }
        marksChange();
        return fed.fedBy.size();
    }

    private int ways(int port, int stage) {
        int n = 0;
        for (int from : stages.get(stage).fedBy) {
            n += from == port ? 1 : from >= 8 ? ways(port, from - 8) : 0;
        }
        return n;
    }

    int window(int stage, int sum, int lateness, int early) {
        if (stage >= stages.size()) {
            return -1;
        }
        Plain told = stages.get(stage);
        if (told.kind < 4) {
            return -2;
        }
        if (told.came > 0) {
            return -4;
        }
        told.sum = sum;
        told.lateness = lateness;
        told.early = early;
        return 1;
    }

    int event(int port, int key, int minute, int value) {
        if (told == 3000) {
            return -6;
        }
        told++;
        goOn(port, new Event(key, minute, value));
        return rows.size();
    }

    int burst(int port, int n, int key, int minute, int step, int value) {
        for (int i = 0; i < n; i++) {
            long at = minute + (long) i * step;
            if (at < 0 || at > 100000 || told == 3000) {
                return i;
            }
            told++;
            goOn(port, new Event(key, (int) at, (long) value + i));
        }
        return n;
    }

    int mark(int port, int m) {
        if (m < marks[port]) {
            return -5;
        }
        marks[port] = m;
        marksChange();
        return rows.size();
    }

    int idle(int port, int is) {
        int was = idle[port] ? 1 : 0;
        idle[port] = is == 1;
        marksChange();
        return was;
    }

    boolean isIdle(int from) {
        return from < 8 ? idle[from] : stages.get(from - 8).fedBy.stream().allMatch(this::isIdle);
    }

    private void goOn(int from, Event event) {
        for (int s = 0; s < stages.size(); s++) {
            if (stages.get(s).fedBy.contains(from)) {
                stages.get(s).came++;
                if (stages.get(s).kind >= 4) {
                    toWindows(s, event);
                } else if (given(stages.get(s), event) != null) {
                    stages.get(s).gave = given(stages.get(s), event);
                    goOn(8 + s, stages.get(s).gave);
                }
            }
        }
    }

    private static Event given(Plain stage, Event e) {
        return switch (stage.kind) {
            case 0 -> (stage.b == 0 ? e.value >= stage.a : ((e.value % stage.b) + stage.b) % stage.b == stage.a) ? e : null;
            case 1 -> new Event(e.key, e.minute, e.value * stage.a + stage.b);
            case 2 -> e;
            default -> new Event((int) (((e.value % stage.a) + stage.a) % stage.a), e.minute, e.value);
        };
    }

    private void toWindows(int s, Event e) {
        Plain stage = stages.get(s);
        if (stage.kind == 6) {
            toSession(s, e);
            return;
        }
        int step = stage.kind == 4 ? stage.a : stage.b;
        for (int begin = -20000 / step * step; begin <= e.minute; begin += step) {
            int end = begin + stage.a;
            if (end > e.minute) {
                if (stage.mark >= end + stage.lateness) {
                    stage.dropped++;
                } else {
                    Pane pane = paneOf(stage, e.key, begin, end);
                    pane.events.add(e);
                    tableOf(stage, e.key + " " + begin).add(e);
                    if (stage.mark >= end || (stage.early > 0 && pane.events.size() % stage.early == 0)) {
                        give(s, pane);
                    }
                }
            }
        }
    }

    private static Pane paneOf(Plain stage, int key, int begin, int end) {
        for (Pane pane : stage.panes) {
            if (!pane.isLetGo && pane.key == key && pane.begin == begin) {
                return pane;
            }
        }
        stage.panes.add(new Pane(key, begin, end));
        return stage.panes.get(stage.panes.size() - 1);
    }

    private static List<Event> tableOf(Plain stage, String name) {
        return stage.table.computeIfAbsent(name, none -> new ArrayList<>());
    }

    private void toSession(int s, Event e) {
        Plain stage = stages.get(s);
        if (e.minute + stage.a + 1 + stage.lateness <= stage.mark) {
            stage.dropped++;
            return;
        }
        tableOf(stage, "" + e.key).add(e);
        List<Pane> near = new ArrayList<>();
        for (Pane pane : stage.panes) {
            int last = pane.end - stage.a - 1;
            if (!pane.isLetGo && pane.key == e.key && pane.begin - stage.a <= e.minute && e.minute <= last + stage.a) {
                near.add(pane);
            }
        }
        near.sort(Comparator.comparingInt(pane -> pane.begin));
        Pane one = new Pane(e.key, e.minute, e.minute + stage.a + 1);
        boolean tookBack = false;
        for (Pane pane : near) {
            tookBack |= takeBack(pane);
            one.begin = Math.min(one.begin, pane.begin);
            one.end = Math.max(one.end, pane.end);
            one.events.addAll(pane.events);
            stage.panes.remove(pane);
        }
        one.events.add(e);
        stage.panes.add(one);
        if (stage.mark >= one.end || tookBack || (stage.early > 0 && one.events.size() % stage.early == 0)) {
            give(s, one);
        }
    }

    private void give(int s, Pane pane) {
        takeBack(pane);
        pane.row = rows.size();
        left.add(pane.row);
        rows.add(new Row(false, s, pane.key, pane.begin, pane.end, sumOf(stages.get(s).sum, pane.events)));
    }

    private boolean takeBack(Pane pane) {
        if (pane.row < 0) {
            return false;
        }
        Row row = rows.get(pane.row);
        rows.add(new Row(true, row.stage, row.key, row.begin, row.end, row.sum));
        left.remove(pane.row);
        pane.row = -1;
        return true;
    }

    static long sumOf(int sum, List<Event> events) {
        long[] values = events.stream().mapToLong(Event::value).sorted().toArray();
        return switch (sum) {
            case 0 -> values.length;
            case 1 -> Arrays.stream(values).sum();
            case 2 -> values[0];
            case 3 -> values[values.length - 1];
            case 4 -> Arrays.stream(values).distinct().count();
            default -> values[(values.length + 1) / 2 - 1];
        };
    }

    private void marksChange() {
        for (int s = 0; s < stages.size(); s++) {
            Plain stage = stages.get(s);
            int least = Integer.MAX_VALUE;
            for (int from : stage.fedBy) {
                if (!isIdle(from)) {
                    least = Math.min(least, from < 8 ? marks[from] : stages.get(from - 8).mark);
                }
            }
            if (least != Integer.MAX_VALUE && least > stage.mark) {
                goUp(s, least);
            }
        }
    }

    private void goUp(int s, int to) {
        Plain stage = stages.get(s);
        int was = stage.mark;
        stage.mark = to;
        List<Pane> inOrder = new ArrayList<>(stage.panes);
        inOrder.sort(Comparator.<Pane>comparingInt(pane -> pane.end).thenComparingInt(pane -> pane.begin)
                .thenComparingInt(pane -> pane.key));
        for (Pane pane : inOrder) {
            if (!pane.isLetGo && pane.end > was && pane.end <= to) {
                give(s, pane);
            }
        }
        for (Pane pane : stage.panes) {
            int last = pane.end - stage.a - 1;
            int letGoAt = stage.kind == 6 ? last + 2 * stage.a + 1 + stage.lateness : pane.end + stage.lateness;
            pane.isLetGo |= letGoAt <= to;
        }
    }

    List<Integer> leftOf(int s) {
        List<Integer> found = new ArrayList<>();
        for (int row : left) {
            if (rows.get(row).stage == s) {
                found.add(row);
            }
        }
        found.sort(Comparator.<Integer>comparingInt(row -> rows.get(row).key).thenComparingInt(row -> rows.get(row).begin)
                .thenComparingInt(row -> rows.get(row).end));
        return found;
    }

    int open(int s) {
        return (int) stages.get(s).panes.stream().filter(pane -> !pane.isLetGo).count();
    }

    int held(int s) {
        return stages.get(s).panes.stream().filter(pane -> !pane.isLetGo).mapToInt(pane -> pane.events.size()).sum();
    }

    int about(int s, int what) {
        Plain stage = stages.get(s);
        return switch (what) {
            case 0 -> stage.kind;
            case 1 -> stage.mark;
            case 2 -> stage.came;
            case 3 -> stage.dropped;
            case 4 -> open(s);
            case 5 -> held(s);
            case 6 -> stage.fedBy.size();
            default -> isIdle(8 + s) ? 1 : 0;
        };
    }

    /** "key begin end sum" of all windows of the table that end at MARK or before. */
    TreeSet<String> ended(int s) {
        Plain stage = stages.get(s);
        TreeSet<String> found = new TreeSet<>();
        for (String name : stage.table.keySet()) {
            List<Event> events = new ArrayList<>(stage.table.get(name));
            String[] parts = name.split(" ");
            if (stage.kind < 6) {
                addEnded(found, stage, Integer.parseInt(parts[1]), Integer.parseInt(parts[1]) + stage.a, events);
                continue;
            }
            events.sort(Comparator.comparingInt(Event::minute));
            int first = 0;
            for (int i = 1; i <= events.size(); i++) {
                if (i == events.size() || events.get(i).minute - events.get(i - 1).minute > stage.a) {
                    addEnded(found, stage, events.get(first).minute, events.get(i - 1).minute + stage.a + 1,
                            events.subList(first, i));
                    first = i;
                }
            }
        }
        return found;
    }

    private static void addEnded(TreeSet<String> found, Plain stage, int begin, int end, List<Event> events) {
        if (end <= stage.mark) {
            found.add(events.get(0).key + " " + begin + " " + end + " " + sumOf(stage.sum, events));
        }
    }
}
