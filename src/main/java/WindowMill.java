import java.util.ArrayList;
import java.util.Arrays;

/** A mill for streams of events that come late and out of order; README.md says how to use it. */
public final class WindowMill {
    public static final int NONE = -1, KIND = -2, RING = -3, STARTED = -4, BEHIND = -5, FULL = -6;

    private static final int PORTS = 8, STAGES = 16, KEYS = 1000, EVENTS = 3000;
    private static final int LAST_MINUTE = 100000, LAST_MARK = 200000;
    private static final int LONGEST_BURST = 200, WAYS = 32, WINDOW_WAYS = 4;
    private static final int LONGEST_WINDOW = 10000, SLIDES = 4, GREATEST_DIVISOR = 1000;
    private static final int MOST_LATENESS = 100000, MOST_EARLY = 1000;

    private static final int KEEP = 0, MAP = 1, MERGE = 2, KEYED = 3, FIXED = 4, SLIDING = 5, SESSION = 6;
    private static final int HOW_MANY = 0, TOGETHER = 1, LEAST = 2, GREATEST = 3, DIFFERENT = 4, MIDDLE = 5;

    /** Ports, then stages: what may feed a stage, by the number that feed calls "from". */
    private final Source[] sources = new Source[PORTS + STAGES];
    private final Stage[] stages = new Stage[STAGES];
    private final int[] ways = new int[STAGES];
    private final Log log = new Log();
    private int made;
    private int told;

    public WindowMill() {
        for (int port = 0; port < PORTS; port++) {
            sources[port] = new Source();
        }
    }

    public int stage(int kind, int a, int b) {
        if (!isAsSaid(kind, a, b)) {
            return NONE;
        }
        if (made >= STAGES) {
            return FULL;
        }
        Stage fresh = kind >= FIXED ? new Windowed(made, kind, a, b, log) : new Passing(kind, a, b);
        stages[made] = fresh;
        sources[PORTS + made] = fresh;
        return made++;
    }

    public int feed(int stage, int from) {
        Stage fed = stageAt(stage);
        Source feeder = sourceAt(from);
        if (fed == null || feeder == null) {
            return NONE;
        }
        if (from - PORTS >= stage || feeder instanceof Windowed || fed.isFedBy(from)) {
            return RING;
        }
        if (fed.came > 0) {
            return STARTED;
        }
        if (hasTooManyWays(stage, from)) {
            return FULL;
        }
        fed.feeders |= 1 << from;
        settleMarks();
        return Integer.bitCount(fed.feeders);
    }

    public int window(int stage, int sum, int lateness, int early) {
        Stage asked = stageAt(stage);
        if (asked == null || !isWithin(sum, HOW_MANY, MIDDLE)
                || !isWithin(lateness, 0, MOST_LATENESS) || !isWithin(early, 0, MOST_EARLY)) {
            return NONE;
        }
        if (!(asked instanceof Windowed windowed)) {
            return KIND;
        }
        if (asked.came > 0) {
            return STARTED;
        }
        windowed.how = sum;
        windowed.lateness = lateness;
        windowed.early = early;
        return 1;
    }

    public int event(int port, int key, int minute, int value) {
        if (!isPort(port) || !isWithin(key, 0, KEYS - 1) || !isWithin(minute, 0, LAST_MINUTE)) {
            return NONE;
        }
        if (told >= EVENTS) {
            return FULL;
        }
        told++;
        carry(port, key, minute, value);
        return log.size;
    }

    public int burst(int port, int keys, int minute, int step, int value) {
        int n = keys / KEYS;
        if (!isPort(port) || keys < 0 || !isWithin(n, 1, LONGEST_BURST)) {
            return NONE;
        }
        int key = keys % KEYS;
        long at = minute;
        for (int i = 0; i < n; i++) {
            if (at < 0 || at > LAST_MINUTE || told >= EVENTS) {
                return i;
            }
            told++;
            carry(port, key, (int) at, (long) value + i);
            at += step;
        }
        return n;
    }

    public int mark(int port, int m) {
        Source marked = portAt(port);
        if (marked == null || !isWithin(m, 0, LAST_MARK)) {
            return NONE;
        }
        if (m < marked.mark) {
            return BEHIND;
        }
        marked.mark = m;
        settleMarks();
        return log.size;
    }

    public int idle(int port, int is) {
        Source source = portAt(port);
        if (source == null || !isWithin(is, 0, 1)) {
            return NONE;
        }
        int was = source.idle ? 1 : 0;
        source.idle = is == 1;
        settleMarks();
        return was;
    }

    public int rows() {
        return log.size;
    }

    public int row(int i, int what) {
        if (!log.holds(i)) {
            return NONE;
        }
        long code = log.codeAt(i);
        long slot = Code.slotOf(code);
        switch (what) {
            case 0: return Code.isBack(code) ? 1 : 0;
            case 1: return Code.stageOf(code);
            case 2: return Code.keyOf(slot);
            case 3: return Code.beginOf(slot);
            case 4: return Code.endOf(slot);
            default: return NONE;
        }
    }

    public long sum(int i) {
        return log.sumAt(i);
    }

    public int left(int stage) {
        Stage asked = stageAt(stage);
        if (asked == null) {
            return NONE;
        }
        return asked instanceof Windowed windowed ? windowed.left : KIND;
    }

    public int leftRow(int stage, int i) {
        return stageAt(stage) instanceof Windowed windowed ? windowed.rowLeft(i) : NONE;
    }

    public int about(int stage, int what) {
        Stage asked = stageAt(stage);
        if (asked == null) {
            return NONE;
        }
        switch (what) {
            case 0: return asked.kind;
            case 1: return asked.mark;
            case 2: return asked.came;
            case 3: return asked instanceof Windowed windowed ? windowed.dropped : 0;
            case 4: return asked instanceof Windowed windowed ? windowed.open : 0;
            case 5: return asked instanceof Windowed windowed ? windowed.held : 0;
            case 6: return Integer.bitCount(asked.feeders);
            case 7: return asked.idle ? 1 : 0;
            default: return NONE;
        }
    }

    public int gave(int stage, int what) {
        if (!(stageAt(stage) instanceof Passing passing) || !passing.gaveAny) {
            return NONE;
        }
        switch (what) {
            case 0: return passing.gaveKey;
            case 1: return passing.gaveMinute;
            default: return NONE;
        }
    }

    public long gaveValue(int stage) {
        return stageAt(stage) instanceof Passing passing && passing.gaveAny ? passing.gaveValue : 0;
    }

    public int apart(int stage) {
        Stage asked = stageAt(stage);
        if (asked == null) {
            return NONE;
        }
        return asked instanceof Windowed windowed ? windowed.wrongRows() : KIND;
    }

    public int count(int what) {
        switch (what) {
            case 0: return made;
            case 1: return told;
            case 2: return openWindows();
            default: return NONE;
        }
    }

    public int markOf(int port) {
        Source asked = portAt(port);
        return asked == null ? NONE : asked.mark;
    }

    private static boolean isWithin(int number, int least, int most) {
        return number >= least && number <= most;
    }

    private static boolean isAsSaid(int kind, int a, int b) {
        switch (kind) {
            case KEEP: return isWithin(b, 0, GREATEST_DIVISOR);
            case MAP: return true;
            case MERGE: return true;
            case KEYED: return isWithin(a, 1, GREATEST_DIVISOR);
            case FIXED: return isWithin(a, 1, LONGEST_WINDOW);
            case SLIDING: return isWithin(a, 1, LONGEST_WINDOW) && isWithin(b, 1, a) && a <= SLIDES * b;
            case SESSION: return isWithin(a, 0, LONGEST_WINDOW);
            default: return false;
        }
    }

    private static boolean isPort(int port) {
        return isWithin(port, 0, PORTS - 1);
    }

    private Source portAt(int port) {
        return isPort(port) ? sources[port] : null;
    }

    private Source sourceAt(int from) {
        return from >= 0 && from < sources.length ? sources[from] : null;
    }

    private Stage stageAt(int stage) {
        return stage >= 0 && stage < made ? stages[stage] : null;
    }

    private int openWindows() {
        int all = 0;
        for (int s = 0; s < made; s++) {
            if (stages[s] instanceof Windowed windowed) {
                all += windowed.open;
            }
        }
        return all;
    }

    /** Whether a port would have more WAYS than it may, if the stage were fed by from too. */
    private boolean hasTooManyWays(int stage, int from) {
        for (int port = 0; port < PORTS; port++) {
            int all = 0;
            int toWindows = 0;
            for (int s = 0; s < made; s++) {
                int more = s == stage ? waysToSource(port, from) : 0;
                ways[s] = waysToStage(port, s) + more;
                all += ways[s];
                toWindows += stages[s] instanceof Windowed ? ways[s] : 0;
            }
            if (all > WAYS || toWindows > WINDOW_WAYS) {
                return true;
            }
        }
        return false;
    }

    /** The sum over all that feeds the stage; the ways to all stages ahead of it are counted already. */
    private int waysToStage(int port, int stage) {
        int n = 0;
        for (int from = 0; from < PORTS + stage; from++) {
            n += stages[stage].isFedBy(from) ? waysToSource(port, from) : 0;
        }
        return n;
    }

    private int waysToSource(int port, int from) {
        if (from < PORTS) {
            return from == port ? 1 : 0;
        }
        return ways[from - PORTS];
    }

    /** Goes no deeper than there are stages: one is fed only by what is ahead of it. */
    private void carry(int from, int key, int minute, long value) {
        for (int s = Math.max(0, from - PORTS + 1); s < made; s++) {
            if (!stages[s].isFedBy(from)) {
                continue;
            }
            if (stages[s] instanceof Windowed windowed) {
                windowed.take(key, minute, value);
            } else if (stages[s] instanceof Passing passing && passing.gives(key, minute, value)) {
                carry(PORTS + s, passing.gaveKey, minute, passing.gaveValue);
            }
        }
    }

    /** In rising order, so that a stage sees the new marks of the stages that feed it. */
    private void settleMarks() {
        for (int s = 0; s < made; s++) {
            Stage stage = stages[s];
            stage.idle = true;
            int least = LAST_MARK;
            for (int from = 0; from < PORTS + s; from++) {
                if (stage.isFedBy(from) && !sources[from].idle) {
                    stage.idle = false;
                    least = Math.min(least, sources[from].mark);
                }
            }
            if (!stage.idle && least > stage.mark) {
                stage.rise(least);
            }
        }
    }

    /** What feeds stages: a port, or a stage. */
    private static class Source {
        int mark;
        boolean idle;
    }

    private abstract static class Stage extends Source {
        final int kind;
        int came;
        /** Bit f: the source f feeds it. */
        int feeders;

        Stage(int kind) {
            this.kind = kind;
            this.idle = true;
        }

        boolean isFedBy(int from) {
            return ((feeders >> from) & 1) != 0;
        }

        abstract void rise(int to);
    }

    /** A stage that gives events on: KEEP, MAP, MERGE, KEYED. */
    private static final class Passing extends Stage {
        private final int a;
        private final int b;
        boolean gaveAny;
        int gaveKey;
        int gaveMinute;
        long gaveValue;

        Passing(int kind, int a, int b) {
            super(kind);
            this.a = a;
            this.b = b;
        }

        void rise(int to) {
            mark = to;
        }

        /** Whether the event that comes is given on; what it is then stands in the fields. */
        boolean gives(int key, int minute, long value) {
            came++;
            if (kind == KEEP && !keeps(value)) {
                return false;
            }
            gaveAny = true;
            gaveKey = kind == KEYED && a > 0 ? (int) Math.floorMod(value, (long) a) : key;
            gaveMinute = minute;
            gaveValue = kind == MAP ? value * a + b : value;
            return true;
        }

        private boolean keeps(long value) {
            return b > 0 ? Math.floorMod(value, (long) b) == a : value >= a;
        }
    }

    /** A stage that gives ROWS: FIXED, SLIDING, SESSION. */
    private static final class Windowed extends Stage {
        private final int number;
        /** How long the window is that an event alone would make. */
        private final int span;
        private final int step;
        private final boolean isSession;
        private final Log log;
        /**
         * The windows, those LET GO too: their rows are still LEFT, and together they are the
         * table of all events that were not DROPPED.
         */
        private final Lane[] lanes = new Lane[KEYS];
        /** The windows that MARK has not reached, and those that it has, until they are LET GO. */
        private final LeastFirst due = new LeastFirst();
        private final LeastFirst passed = new LeastFirst();
        int how;
        int lateness;
        int early;
        int dropped;
        int open;
        int held;
        int left;

        Windowed(int number, int kind, int a, int b, Log log) {
            super(kind);
            this.number = number;
            this.isSession = kind == SESSION;
            this.span = isSession ? a + 1 : a;
            this.step = Math.max(1, kind == SLIDING ? b : span);
            this.log = log;
        }

        void take(int key, int minute, long value) {
            came++;
            int first = isSession ? minute : Math.floorDiv(minute - span, step) * step + step;
            for (int begin = first; begin <= minute; begin += step) {
                enter(key, begin, value);
            }
        }

        void rise(int to) {
            mark = to;
            for (int n = due.size; n > 0 && Code.endOf(due.least()) <= to; n--) {
                long slot = due.takeLeast();
                Window window = windowAt(slot);
                if (window != null) {
                    give(window);
                    passed.add(slot);
                }
            }
            // A later event may still join a SESSION one gap behind its last one.
            int stay = isSession ? lateness + span - 1 : lateness;
            for (int n = passed.size; n > 0 && Code.endOf(passed.least()) + stay <= to; n--) {
                Window window = windowAt(passed.takeLeast());
                if (window != null) {
                    open--;
                    held -= window.events;
                }
            }
        }

        int rowLeft(int i) {
            if (i < 0) {
                return NONE;
            }
            int ahead = i;
            for (Lane lane : lanes) {
                int here = lane == null ? 0 : lane.left;
                if (ahead < here) {
                    return lane.rowLeft(ahead);
                }
                ahead -= here;
            }
            return NONE;
        }

        int wrongRows() {
            int wrong = 0;
            for (Lane lane : lanes) {
                int size = lane == null ? 0 : lane.windows.size();
                for (int i = 0; i < size; i++) {
                    Window window = lane.at(i);
                    if (window != null && window.end <= mark
                            && (window.row == NONE || log.sumAt(window.row) != window.answer(how))) {
                        wrong++;
                    }
                }
            }
            return wrong;
        }

        /**
         * An event comes to the window of one begin; a SESSION is what has become one of such.
         * No window that it meets here is LET GO: the event would have been DROPPED.
         */
        private void enter(int key, int begin, long value) {
            int end = begin + span;
            if (end + lateness <= mark) {
                dropped++;
                return;
            }
            Lane lane = laneOf(key);
            int i = lane.firstEnding(isSession ? begin + 1 : end);
            Window window = lane.at(i);
            boolean tookBack = false;
            if (window == null || window.begin >= (isSession ? end : begin + 1)) {
                window = new Window(key, begin, end);
                lane.insert(i, window);
                open++;
                await(window);
            } else if (isSession) {
                tookBack = join(lane, i, begin, end);
            }
            window.add(value, how);
            held++;
            if (tookBack || window.end <= mark || (early > 0 && window.events % early == 0)) {
                give(window);
            }
        }

        /** Makes window i, those behind it that [begin, end) touches, and that, one; whether a row was taken back. */
        private boolean join(Lane lane, int i, int begin, int end) {
            Window window = lane.at(i);
            if (window == null) {
                return false;
            }
            int wasBegin = window.begin;
            int wasEnd = window.end;
            boolean tookBack = takeBack(window);
            Window next = lane.at(i + 1);
            for (int n = lane.windows.size(); n > 0 && next != null && next.begin < end; n--) {
                tookBack |= takeBack(next);
                window.absorb(next, how);
                lane.removeAt(i + 1);
                open--;
                next = lane.at(i + 1);
            }
            window.widen(begin, end);
            if (window.begin != wasBegin || window.end != wasEnd) {
                await(window);
            }
            return tookBack;
        }

        /** What the window was before a join stays in the line, and is passed over when its turn comes. */
        private void await(Window window) {
            long slot = Code.slot(window.key, window.begin, window.end);
            if (window.end > mark) {
                due.add(slot);
            } else {
                passed.add(slot);
            }
        }

        private void give(Window window) {
            takeBack(window);
            long slot = Code.slot(window.key, window.begin, window.end);
            window.row = log.add(Code.put(slot, number), window.answer(how));
            left++;
            laneOf(window.key).left++;
        }

        private boolean takeBack(Window window) {
            if (window.row == NONE) {
                return false;
            }
            log.add(Code.back(log.codeAt(window.row)), log.sumAt(window.row));
            window.row = NONE;
            left--;
            laneOf(window.key).left--;
            return true;
        }

        private Lane laneOf(int key) {
            int at = Math.floorMod(key, KEYS);
            if (lanes[at] == null) {
                lanes[at] = new Lane();
            }
            return lanes[at];
        }

        private Window windowAt(long slot) {
            Lane lane = laneOf(Code.keyOf(slot));
            Window window = lane.at(lane.firstEnding(Code.endOf(slot)));
            boolean isIt = window != null && window.begin == Code.beginOf(slot) && window.end == Code.endOf(slot);
            return isIt ? window : null;
        }
    }

    /** The windows of one KEY of a stage, in order of begin, and so of end. */
    private static final class Lane {
        final ArrayList<Window> windows = new ArrayList<>();
        int left;

        Window at(int i) {
            return i >= 0 && i < windows.size() ? windows.get(i) : null;
        }

        void insert(int i, Window window) {
            if (i >= 0 && i <= windows.size()) {
                windows.add(i, window);
            }
        }

        void removeAt(int i) {
            if (i >= 0 && i < windows.size()) {
                windows.remove(i);
            }
        }

        int firstEnding(int least) {
            int low = 0;
            int high = windows.size();
            while (low < high) {
                int middle = (low + high) / 2;
                if (windows.get(middle).end < least) {
                    low = middle + 1;
                } else {
                    high = middle;
                }
            }
            return low;
        }

        int rowLeft(int i) {
            int ahead = i;
            for (int w = 0; w < windows.size(); w++) {
                int row = windows.get(w).row;
                if (row != NONE && ahead-- == 0) {
                    return row;
                }
            }
            return NONE;
        }
    }

    private static final class Window {
        private static final int FIRST_ROOM = 4;
        final int key;
        int begin;
        int end;
        int events;
        int row = NONE;
        /** What the SUM is, as far as it can be told without the single VALUES. */
        private long tally;
        /** The VALUES in rising order, for MIDDLE; for DIFFERENT each of them once. */
        private long[] values;
        private int size;

        Window(int key, int begin, int end) {
            this.key = key;
            this.begin = begin;
            this.end = end;
        }

        void widen(int toBegin, int toEnd) {
            begin = Math.min(begin, toBegin);
            end = Math.max(end, toEnd);
        }

        void add(long value, int how) {
            if (how == DIFFERENT || how == MIDDLE) {
                insert(value, how == MIDDLE);
            } else {
                tally = events == 0 ? value : combined(value, how);
            }
            events++;
        }

        void absorb(Window other, int how) {
            widen(other.begin, other.end);
            tally = combined(other.tally, how);
            events += other.events;
            // The shorter row of VALUES goes into the longer one, so that none is moved often.
            boolean isLonger = other.size > size;
            long[] fewer = isLonger ? values : other.values;
            int n = Math.min(size, other.size);
            if (isLonger) {
                values = other.values;
                size = other.size;
            }
            for (int i = 0; fewer != null && i < n; i++) {
                insert(fewer[i], how == MIDDLE);
            }
        }

        long answer(int how) {
            switch (how) {
                case HOW_MANY: return events;
                case DIFFERENT: return size;
                case MIDDLE: return size > 0 && values != null ? values[(size - 1) / 2] : 0;
                default: return tally;
            }
        }

        private long combined(long more, int how) {
            switch (how) {
                case LEAST: return Math.min(tally, more);
                case GREATEST: return Math.max(tally, more);
                case TOGETHER: return tally + more;
                default: return tally;
            }
        }

        private void insert(long value, boolean alsoAgain) {
            if (values == null) {
                values = new long[FIRST_ROOM];
            }
            int low = 0;
            int high = Math.min(size, values.length);
            while (low < high) {
                int middle = (low + high) / 2;
                if (values[middle] < value) {
                    low = middle + 1;
                } else {
                    high = middle;
                }
            }
            if (!alsoAgain && low < size && values[low] == value) {
                return;
            }
            if (size >= values.length) {
                values = Arrays.copyOf(values, 2 * size);
            }
            System.arraycopy(values, low, values, low + 1, size - low);
            values[low] = value;
            size++;
        }
    }

    /** A heap of numbers. */
    private static final class LeastFirst {
        private static final int FIRST_ROOM = 16;
        private long[] items = new long[FIRST_ROOM];
        int size;

        void add(long item) {
            if (size >= items.length) {
                items = Arrays.copyOf(items, 2 * size);
            }
            int at = size;
            size++;
            while (at > 0 && items[(at - 1) / 2] > item) {
                items[at] = items[(at - 1) / 2];
                at = (at - 1) / 2;
            }
            items[at] = item;
        }

        long least() {
            return items[0];
        }

        long takeLeast() {
            if (size == 0) {
                return 0;
            }
            long least = items[0];
            size--;
            long item = items[size];
            int at = 0;
            for (int below = 1; below < size; below = 2 * at + 1) {
                if (below + 1 < size && items[below + 1] < items[below]) {
                    below++;
                }
                if (items[below] >= item) {
                    break;
                }
                items[at] = items[below];
                at = below;
            }
            items[at] = item;
            return least;
        }
    }

    /** The ROWS as they were given, in blocks that are made when they are needed. */
    private static final class Log {
        private static final int BLOCK_BITS = 10, BLOCK = 1 << BLOCK_BITS;
        /**
         * Room for 4 rows for each of 3000 events, 4 ways and 4 windows: a window gives a row when
         * an event comes and once more when MARK passes it, and takes one back each time.
         */
        private static final int BLOCKS = 4 * EVENTS * WINDOW_WAYS * SLIDES / BLOCK + 1;
        private final long[][] codes = new long[BLOCKS][];
        private final long[][] sums = new long[BLOCKS][];
        int size;

        int add(long code, long sum) {
            int block = size >> BLOCK_BITS;
            if (block >= BLOCKS) {
                return NONE;
            }
            if (codes[block] == null || sums[block] == null) {
                codes[block] = new long[BLOCK];
                sums[block] = new long[BLOCK];
            }
            codes[block][size % BLOCK] = code;
            sums[block][size % BLOCK] = sum;
            return size++;
        }

        boolean holds(int i) {
            return i >= 0 && i < size;
        }

        long codeAt(int i) {
            return holds(i) ? codes[i >> BLOCK_BITS][i % BLOCK] : 0;
        }

        long sumAt(int i) {
            return holds(i) ? sums[i >> BLOCK_BITS][i % BLOCK] : 0;
        }
    }

    /**
     * A window's end, begin and KEY as one number, its slot: slots in rising order are windows in
     * the order in which MARK passes them. A row's code is its slot, its stage, and whether it is BACK.
     */
    private static final class Code {
        private static final int KEY_BITS = 10, BEGIN_BITS = 17, STAGE_BITS = 4;
        /** Keeps a begin below 0 from being one in a slot. */
        private static final int RAISED = LONGEST_WINDOW;

        static long slot(int key, int begin, int end) {
            return (((long) end << BEGIN_BITS) | (begin + RAISED)) << KEY_BITS | key;
        }

        static int keyOf(long slot) {
            return (int) slot & ((1 << KEY_BITS) - 1);
        }

        static int beginOf(long slot) {
            return ((int) (slot >> KEY_BITS) & ((1 << BEGIN_BITS) - 1)) - RAISED;
        }

        static int endOf(long slot) {
            return (int) (slot >> (KEY_BITS + BEGIN_BITS));
        }

        static long put(long slot, int stage) {
            return ((slot << STAGE_BITS) | stage) << 1;
        }

        static long back(long code) {
            return code | 1;
        }

        static boolean isBack(long code) {
            return (code & 1) != 0;
        }

        static int stageOf(long code) {
            return (int) (code >> 1) & (STAGES - 1);
        }

        static long slotOf(long code) {
            return code >> (STAGE_BITS + 1);
        }
    }
}
