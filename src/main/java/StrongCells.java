import java.util.Arrays;

/** Strong cells built of weak ones: acts that overlap step by step, and how their history is judged. */
public final class StrongCells {
    public static final int NONE = -1, UNKNOWN = -1000000001, OUTSIDE = -1000000002, NOT = -1000000003, FULL = -1000000004;

    private static final int MOST_TIMES = 20, LAST_TOLD = 18, LAST_OF_PROCESS = 5, LAST_OF_ACT = 6, LAST_OF_WAYS = 3;

    private final State now = new State();
    private final Judge judge = new Judge();
    private final Ways allWays = new Ways();
    private final Deeds deeds = new Deeds();
    private final Images images = new Images();
    private final Book book = new Book();
    private int drawn;

    public StrongCells() {
        now.shape(0, 0, 0, 2, 1);
        now.restart();
    }

    // ---- what is so

    public int told(int what) {
        if (!within(what, 0, LAST_TOLD)) return OUTSIDE;
        switch (what) {
            case 5: return now.processes();
            case 6: return now.cells();
            case 7: return now.get(State.ACTS);
            case 8: return now.underWay();
            case 9: return now.get(State.TIME);
            case 10: return judge.atomic(now) ? 1 : 0;
            case 11: return judge.firstNotSafe(now);
            case 12: return judge.firstNotRegular(now);
            case 13: return judge.firstGoingBack(now);
            case 14: return now.greatestStamp();
            case 15: return book.size();
            case 16: return book.firstWrong(now);
            case 17: return deeds.size();
            case 18: return drawn;
            default: return now.get(what);
        }
    }

    public int cell(int c) {
        if (!within(c, 0, now.cells() - 1)) return UNKNOWN;
        return now.held(c);
    }

    public int process(int p, int what) {
        if (!isProcess(p)) return UNKNOWN;
        if (!within(what, 0, LAST_OF_PROCESS)) return OUTSIDE;
        switch (what) {
            case 0: return now.of(p, State.ACT);
            case 1: return now.of(p, State.ENDED);
            case 2: return now.of(p, State.BEGUN);
            case 3: return now.of(p, State.CELL);
            case 4: return Steps.choices(now, p);
            default: return now.of(p, State.KEPT);
        }
    }

    public int act(int a, int what) {
        if (!isAct(a)) return UNKNOWN;
        if (!within(what, 0, LAST_OF_ACT)) return OUTSIDE;
        if (what <= State.END) return now.ofAct(a, what);
        if (!judge.judges(now, a)) return NONE;
        boolean good = what == 5 ? judge.safe(now, a) : judge.regular(now, a);
        return good ? 1 : 0;
    }

    public int ways(int what) {
        if (!within(what, 0, LAST_OF_WAYS)) return OUTSIDE;
        allWays.goThrough(now, judge);
        switch (what) {
            case 0: return allWays.count;
            case 1: return allWays.badCount;
            case 2: return allWays.firstBad;
            default: return allWays.longest;
        }
    }

    // ---- deeds

    public int build(int build, int poor, int base, int r, int readers) {
        if (!within(build, 0, 5) || !within(poor, 0, 1) || !within(base, 0, 2)) return OUTSIDE;
        if (!within(r, 2, 4) || !within(readers, 1, 3)) return OUTSIDE;
        if (!Plan.canBeBuilt(build, base, r, readers)) return NOT;
        now.shape(build, poor, base, r, readers);
        beginAnew();
        return now.processes();
    }

    public int clear() {
        int acts = now.get(State.ACTS);
        beginAnew();
        return acts;
    }

    public int begin(int p, int v) {
        if (!isProcess(p)) return UNKNOWN;
        if (now.isWriter(p) && !within(v, 0, now.get(State.R) - 1)) return OUTSIDE;
        if (now.isUnderWay(p)) return NOT;
        if (!now.hasRoom()) return FULL;
        remember();
        return Steps.start(now, p, v);
    }

    public int step(int p, int choice) {
        if (!isProcess(p)) return UNKNOWN;
        if (!now.isUnderWay(p)) return NOT;
        if (!within(choice, 0, Steps.choices(now, p) - 1)) return OUTSIDE;
        remember();
        return Steps.go(now, p, choice) ? 1 : 0;
    }

    public int run() {
        if (now.underWay() == 0) return NOT;
        remember();
        int steps = 0;
        for (int p = 0; p < State.MOST_PROCESSES; p++) {
            // As the first process goes first, a way's beginning is all of it, then all of the next one.
            for (int i = 0; i < Ways.MOST_STEPS && now.isUnderWay(p); i++) {
                Steps.go(now, p, 0);
                steps++;
            }
        }
        return steps;
    }

    public int bad() {
        allWays.goThrough(now, judge);
        if (allWays.firstBad == NONE) return NOT;
        int steps = allWays.firstBadSteps;
        remember();
        allWays.goFirstBad(now);
        return steps;
    }

    public int drift(int n) {
        if (!within(n, 1, MOST_TIMES)) return OUTSIDE;
        for (int i = 0; i < n; i++) driftOnce();
        return now.get(State.TIME);
    }

    public int undo(int n) {
        if (!within(n, 1, Deeds.MOST)) return OUTSIDE;
        if (n > deeds.size()) return NOT;
        deeds.takeBack(n, now);
        allWays.forget();
        return deeds.size();
    }

    // ---- the book

    public int write(int a, int v) {
        if (!isAct(a)) return UNKNOWN;
        if (book.isFull()) return FULL;
        book.add(a, v);
        return book.size();
    }

    public int tear() {
        int had = book.size();
        book.empty();
        return had;
    }

    // ---- images

    public int seed(int v) {
        if (v < 0) return OUTSIDE;
        int was = drawn;
        drawn = v;
        return was;
    }

    public int keep(int i) {
        if (!images.isImage(i)) return UNKNOWN;
        images.store(i, now, drawn);
        deeds.forget();
        return 1;
    }

    public int goBack(int i) {
        if (!images.isImage(i)) return UNKNOWN;
        if (!images.isKept(i)) return NOT;
        images.restore(i, now);
        drawn = images.seedOf(i);
        deeds.forget();
        allWays.forget();
        return 1;
    }

    // ---- what the calls share

    private static boolean within(int x, int least, int most) {
        return x >= least && x <= most;
    }

    private boolean isProcess(int p) {
        return within(p, 0, now.processes() - 1);
    }

    private boolean isAct(int a) {
        return within(a, 0, now.get(State.ACTS) - 1);
    }

    private void beginAnew() {
        now.restart();
        deeds.forget();
        allWays.forget();
    }

    private void remember() {
        deeds.add(now);
        allWays.forget();
    }

    private void driftOnce() {
        int p = draw(now.processes());
        if (now.isUnderWay(p)) {
            int choice = draw(Steps.choices(now, p));
            remember();
            Steps.go(now, p, choice);
        } else if (now.hasRoom()) {
            int v = now.isWriter(p) ? draw(now.get(State.R)) : 0;
            remember();
            Steps.start(now, p, v);
        }
    }

    private int draw(int n) {
        drawn = (drawn * 1103515245 + 12345) & 0x7fffffff;
        return n < 1 ? 0 : drawn / 65536 % n;
    }

    /** All that deeds change, in one row of numbers, so that it can be kept and brought back whole. */
    private static final class State {
        // BUILD to READERS in the order in which told() tells them
        static final int BUILD = 0, POOR = 1, BASE = 2, R = 3, READERS = 4, TIME = 5, ACTS = 6, HEAD_SIZE = 7;
        static final int MOST_CELLS = 9, MOST_ACTS = 7, MOST_PROCESSES = 5, MOST_NUMBERS = 8;

        // of an act, in the order in which act() tells them
        static final int PROCESS = 0, WRITES = 1, TOLD = 2, START = 3, END = 4, ACT_SIZE = 5;

        // of a process; ACT to CELL in the order in which process() tells them
        // PLAN: accesses that its act has; BEST: what this got so far, by tags the greatest
        // CELL, READING, NUMBER: of the access that has begun, or is next; NUMBER is what a write tells
        // NUMBERS: how many there are from FIRST_NUMBER on that its read can get
        static final int ACT = 0, ENDED = 1, BEGUN = 2, CELL = 3, KEPT = 4, PLAN = 5, BEST = 6, READING = 7, NUMBER = 8,
            OVERLAPPED = 9, NUMBERS = 10, FIRST_NUMBER = 11, PROCESS_SIZE = FIRST_NUMBER + MOST_NUMBERS;

        static final int CELL_PLACE = HEAD_SIZE, ACT_PLACE = CELL_PLACE + MOST_CELLS,
            PROCESS_PLACE = ACT_PLACE + MOST_ACTS * ACT_SIZE, SIZE = PROCESS_PLACE + MOST_PROCESSES * PROCESS_SIZE;

        final int[] row = new int[SIZE];

        int get(int place) {
            return place >= 0 && place < row.length ? row[place] : 0;
        }

        void put(int place, int number) {
            if (place >= 0 && place < row.length) row[place] = number;
        }

        int held(int c) {
            int place = CELL_PLACE + c;
            return place >= 0 && place < row.length ? row[place] : 0;
        }

        void hold(int c, int number) {
            put(CELL_PLACE + c, number);
        }

        int ofAct(int a, int what) {
            int place = ACT_PLACE + a * ACT_SIZE + what;
            return place >= 0 && place < row.length ? row[place] : 0;
        }

        void setAct(int a, int what, int number) {
            put(ACT_PLACE + a * ACT_SIZE + what, number);
        }

        int of(int p, int what) {
            int place = PROCESS_PLACE + p * PROCESS_SIZE + what;
            return place >= 0 && place < row.length ? row[place] : 0;
        }

        void set(int p, int what, int number) {
            put(PROCESS_PLACE + p * PROCESS_SIZE + what, number);
        }

        void shape(int build, int poor, int base, int r, int readers) {
            put(BUILD, build);
            put(POOR, poor);
            put(BASE, base);
            put(R, r);
            put(READERS, readers);
        }

        void restart() {
            for (int place = TIME; place < SIZE; place++) put(place, 0);
            for (int p = 0; p < MOST_PROCESSES; p++) {
                set(p, ACT, NONE);
                set(p, CELL, NONE);
            }
            if (get(BUILD) == 2) hold(0, 1);
        }

        boolean isPoor() {
            return get(POOR) == 1;
        }

        int writers() {
            return get(BUILD) == 5 ? 2 : 1;
        }

        boolean isWriter(int p) {
            // writers() would be one call more, and steps of ALL WAYS go as deep as calls may already.
            return p < (get(BUILD) == 5 ? 2 : 1);
        }

        int processes() {
            return writers() + get(READERS);
        }

        int cells() {
            switch (get(BUILD)) {
                case 2: return get(R);
                case 4: return get(READERS) * get(READERS);
                case 5: return writers();
                default: return 1;
            }
        }

        boolean isUnderWay(int p) {
            return of(p, ACT) != NONE;
        }

        int underWay() {
            int count = 0;
            for (int p = 0; p < MOST_PROCESSES; p++) {
                if (isUnderWay(p)) count++;
            }
            return count;
        }

        boolean hasRoom() {
            return get(ACTS) < MOST_ACTS;
        }

        int greatestStamp() {
            int greatest = 0;
            if (get(BUILD) < 3) return greatest;
            for (int c = 0; c < cells(); c++) greatest = Math.max(greatest, held(c) / Plan.STAMP);
            return greatest;
        }
    }

    /** Which accesses an act has by its build: how many, to which cells, what is written. */
    private static final class Plan {
        static final int STAMP = 100, WRITER = 10;

        static boolean canBeBuilt(int build, int base, int r, int readers) {
            switch (build) {
                case 1: return r == 2;
                case 3: return readers == 1 && base == 1;
                case 4: return base == 1;
                case 5: return base == 2;
                default: return true;
            }
        }

        /** How many an act has as it is begun; a read by build 2 may find its end earlier. */
        static int accesses(State s, int p, int v) {
            boolean writer = s.isWriter(p);
            boolean poor = s.isPoor();
            int readers = s.get(State.READERS);
            switch (s.get(State.BUILD)) {
                case 1: return writer && !poor && v == s.of(p, State.KEPT) ? 0 : 1;
                case 2: return writer && !poor ? v + 1 : s.get(State.R);
                case 4: return writer ? readers : poor ? 1 : 2 * readers - 1;
                case 5: return !writer ? 2 : poor ? 1 : 3;
                default: return 1;
            }
        }

        /** Sets what the next access is; it stays so till that has ended. */
        static void prepare(State s, int p) {
            int nth = s.of(p, State.ENDED);
            if (nth >= s.of(p, State.PLAN)) {
                s.set(p, State.CELL, NONE);
                return;
            }
            boolean reading = reads(s, p, nth);
            s.set(p, State.READING, reading ? 1 : 0);
            s.set(p, State.CELL, cellOf(s, p, nth, reading));
            if (!reading) s.set(p, State.NUMBER, numberWritten(s, p, nth));
        }

        private static boolean reads(State s, int p, int nth) {
            int build = s.get(State.BUILD);
            if (s.isWriter(p)) return build == 5 && !s.isPoor() && nth < 2;
            return build != 4 || nth < s.get(State.READERS);
        }

        private static int cellOf(State s, int p, int nth, boolean reading) {
            boolean writer = s.isWriter(p);
            switch (s.get(State.BUILD)) {
                case 2: return writer ? bitWritten(s, valueWritten(s, p), nth) : nth;
                case 4: return writer ? nth : relayCell(s.get(State.READERS), p - s.writers(), nth);
                case 5: return reading ? nth : p;
                default: return 0;
            }
        }

        private static int numberWritten(State s, int p, int nth) {
            int kept = s.of(p, State.KEPT);
            if (!s.isWriter(p)) return kept;
            int v = valueWritten(s, p);
            switch (s.get(State.BUILD)) {
                case 2: return bitWritten(s, v, nth) == v ? 1 : 0;
                case 3:
                case 4: return STAMP * kept + v;
                case 5: return STAMP * (1 + (s.isPoor() ? kept : s.of(p, State.BEST) / STAMP)) + WRITER * p + v;
                default: return v;
            }
        }

        private static int valueWritten(State s, int p) {
            return s.ofAct(s.of(p, State.ACT), State.WRITES);
        }

        private static int bitWritten(State s, int v, int nth) {
            if (s.get(State.POOR) == 0) return v - nth;
            if (nth == s.get(State.R) - 1) return v;
            return nth < v ? nth : nth + 1;
        }

        private static int relayCell(int readers, int i, int nth) {
            if (nth == 0) return i;
            if (nth >= readers) return tellingCell(readers, i, nth - readers);
            int other = nth <= i ? nth - 1 : nth;
            return tellingCell(readers, other, i < other ? i : i - 1);
        }

        /** In which reader i tells the nth one of the others. */
        private static int tellingCell(int readers, int i, int nthOther) {
            return readers + i * (readers - 1) + nthOther;
        }
    }

    /** How acts are begun, and how they go on by one event. */
    private static final class Steps {

        static int start(State s, int p, int v) {
            int a = s.get(State.ACTS);
            s.setAct(a, State.PROCESS, p);
            s.setAct(a, State.WRITES, s.isWriter(p) ? v : NONE);
            s.setAct(a, State.TOLD, NONE);
            s.setAct(a, State.START, s.get(State.TIME));
            s.setAct(a, State.END, NONE);
            s.put(State.ACTS, a + 1);
            s.set(p, State.ACT, a);
            // How many accesses there are hangs on what is kept of the act before.
            s.set(p, State.PLAN, Plan.accesses(s, p, v));
            keepAtStart(s, p, v);
            Plan.prepare(s, p);
            tick(s);
            return a;
        }

        static int choices(State s, int p) {
            if (!s.isUnderWay(p)) return 0;
            if (s.of(p, State.BEGUN) == 0 || s.of(p, State.READING) == 0) return 1;
            if (s.get(State.BASE) != 0) return s.of(p, State.NUMBERS);
            if (s.of(p, State.OVERLAPPED) == 0) return 1;
            return s.get(State.BUILD) == 2 ? 2 : s.get(State.R);
        }

        /** Whether the act ended. */
        static boolean go(State s, int p, int choice) {
            if (s.of(p, State.PLAN) > 0) {
                boolean begins = s.get(State.BASE) != 2 && s.of(p, State.BEGUN) == 0;
                if (begins) {
                    beginAccess(s, p);
                } else {
                    if (s.of(p, State.READING) == 1) takeIn(s, p, numberGot(s, p, choice));
                    else putDown(s, p);
                    s.set(p, State.BEGUN, 0);
                    s.set(p, State.ENDED, s.of(p, State.ENDED) + 1);
                    Plan.prepare(s, p);
                }
            }
            boolean ended = s.of(p, State.ENDED) >= s.of(p, State.PLAN);
            if (ended) finish(s, p);
            tick(s);
            return ended;
        }

        private static void tick(State s) {
            s.put(State.TIME, s.get(State.TIME) + 1);
        }

        private static void keepAtStart(State s, int p, int v) {
            int build = s.get(State.BUILD);
            int kept = s.of(p, State.KEPT);
            boolean writer = s.isWriter(p);
            s.set(p, State.BEST, build == 4 && !writer ? kept : 0);
            if (writer && build == 1) s.set(p, State.KEPT, v);
            if (writer && (build == 3 || build == 4)) s.set(p, State.KEPT, kept + 1);
        }

        private static void beginAccess(State s, int p) {
            int c = s.of(p, State.CELL);
            int reading = s.of(p, State.READING);
            s.set(p, State.BEGUN, 1);
            if (reading == 1) {
                s.set(p, State.OVERLAPPED, 0);
                s.set(p, State.NUMBERS, 0);
                addNumber(s, p, s.held(c));
            }
            for (int q = 0; q < State.MOST_PROCESSES; q++) {
                if (s.of(q, State.BEGUN) == 0 || s.of(q, State.CELL) != c || s.of(q, State.READING) == reading) continue;
                int reader = reading == 1 ? p : q;
                s.set(reader, State.OVERLAPPED, 1);
                addNumber(s, reader, s.of(reading == 1 ? q : p, State.NUMBER));
            }
        }

        private static void addNumber(State s, int p, int number) {
            int count = s.of(p, State.NUMBERS);
            if (count < 0 || count >= State.MOST_NUMBERS) return;
            for (int i = 0; i < count; i++) {
                if (s.of(p, State.FIRST_NUMBER + i) == number) return;
            }
            s.set(p, State.FIRST_NUMBER + count, number);
            s.set(p, State.NUMBERS, count + 1);
        }

        private static int numberGot(State s, int p, int choice) {
            int base = s.get(State.BASE);
            if (base == 2) return s.held(s.of(p, State.CELL));
            boolean anything = base == 0 && s.of(p, State.OVERLAPPED) == 1;
            return anything ? choice : s.of(p, State.FIRST_NUMBER + choice);
        }

        private static void putDown(State s, int p) {
            int number = s.of(p, State.NUMBER);
            s.hold(s.of(p, State.CELL), number);
            if (s.get(State.BUILD) == 5) s.set(p, State.KEPT, number / Plan.STAMP);
        }

        private static void takeIn(State s, int p, int got) {
            int nth = s.of(p, State.ENDED);
            int best = s.of(p, State.BEST);
            switch (s.get(State.BUILD)) {
                case 2:
                    s.set(p, State.BEST, nth);
                    if (got == 1) s.set(p, State.PLAN, nth + 1);
                    break;
                case 3:
                    if (!s.isPoor()) keepNewer(s, p, got);
                    s.set(p, State.BEST, s.isPoor() ? got : s.of(p, State.KEPT));
                    break;
                case 4:
                    s.set(p, State.BEST, Math.max(got, best));
                    if (s.isPoor() || nth == s.get(State.READERS) - 1) s.set(p, State.KEPT, Math.max(got, best));
                    break;
                case 5:
                    s.set(p, State.BEST, Math.max(got, best));
                    break;
                default:
                    s.set(p, State.BEST, got);
            }
        }

        private static void keepNewer(State s, int p, int got) {
            if (got / Plan.STAMP >= s.of(p, State.KEPT) / Plan.STAMP) s.set(p, State.KEPT, got);
        }

        private static void finish(State s, int p) {
            int a = s.of(p, State.ACT);
            // A value has one digit: the last one of a tag, or all of what is no tag.
            if (!s.isWriter(p)) s.setAct(a, State.TOLD, s.of(p, State.BEST) % Plan.WRITER);
            s.setAct(a, State.END, s.get(State.TIME));
            s.set(p, State.ACT, NONE);
            s.set(p, State.ENDED, 0);
        }
    }

    /** What the history is worth. */
    private static final class Judge {
        private static final int ROWS = 1 << State.MOST_ACTS;

        /** Of each act the acts that must stand ahead of it, a bit each. */
        private final int[] needed = new int[State.MOST_ACTS];

        /** Of each set of acts the values, a bit each, that may be the last one written when just these stand in the row. */
        private final int[] lastOnes = new int[ROWS];

        boolean judges(State s, int a) {
            return s.writers() == 1 && isRead(s, a) && hasEnded(s, a);
        }

        boolean safe(State s, int r) {
            if (toldLast(s, r)) return true;
            for (int w = 0; w < s.get(State.ACTS); w++) {
                if (writesBeside(s, w, r)) return true;
            }
            return false;
        }

        boolean regular(State s, int r) {
            return greatestSource(s, r) != NONE;
        }

        int firstNotSafe(State s) {
            for (int r = 0; r < s.get(State.ACTS); r++) {
                if (judges(s, r) && !safe(s, r)) return r;
            }
            return NONE;
        }

        int firstNotRegular(State s) {
            for (int r = 0; r < s.get(State.ACTS); r++) {
                if (judges(s, r) && !regular(s, r)) return r;
            }
            return NONE;
        }

        int firstGoingBack(State s) {
            for (int r = 0; r < s.get(State.ACTS); r++) {
                if (judges(s, r) && goesBack(s, r)) return r;
            }
            return NONE;
        }

        /** Puts the acts in a row one by one; of two rows of the same acts only the last value written matters. */
        boolean atomic(State s) {
            int acts = Math.min(s.get(State.ACTS), State.MOST_ACTS);
            int must = endedActs(s, acts);
            for (int a = 0; a < acts; a++) needed[a] = actsAhead(s, a);
            Arrays.fill(lastOnes, 0);
            lastOnes[0] = 1;
            for (int set = 0; set < 1 << acts && set < ROWS; set++) {
                if (lastOnes[set] == 0) continue;
                if ((set & must) == must) return true;
                for (int a = 0; a < acts; a++) {
                    if ((set >> a & 1) == 0 && (needed[a] & ~set) == 0) putBehind(s, set, a);
                }
            }
            return false;
        }

        private void putBehind(State s, int set, int a) {
            int longer = set | 1 << a;
            if (set < 0 || longer >= ROWS) return;
            if (!isRead(s, a)) lastOnes[longer] |= 1 << s.ofAct(a, State.WRITES);
            else if (hasEnded(s, a)) lastOnes[longer] |= lastOnes[set] & 1 << s.ofAct(a, State.TOLD);
        }

        private static int endedActs(State s, int acts) {
            int set = 0;
            for (int a = 0; a < acts; a++) {
                if (hasEnded(s, a)) set |= 1 << a;
            }
            return set;
        }

        private static int actsAhead(State s, int of) {
            int set = 0;
            for (int a = 0; a < s.get(State.ACTS); a++) {
                if (isAhead(s, a, of)) set |= 1 << a;
            }
            return set;
        }

        private static boolean isRead(State s, int a) {
            return s.ofAct(a, State.WRITES) == NONE;
        }

        private static boolean hasEnded(State s, int a) {
            return s.ofAct(a, State.END) != NONE;
        }

        private static boolean isAhead(State s, int a, int of) {
            int end = s.ofAct(a, State.END);
            return end != NONE && end < s.ofAct(of, State.START);
        }

        private static boolean writesBeside(State s, int w, int r) {
            return !isRead(s, w) && !isAhead(s, w, r) && !isAhead(s, r, w);
        }

        private static int lastWriting(State s, int r) {
            int last = NONE;
            for (int w = 0; w < s.get(State.ACTS); w++) {
                if (isRead(s, w) || !isAhead(s, w, r)) continue;
                if (last == NONE || s.ofAct(w, State.END) > s.ofAct(last, State.END)) last = w;
            }
            return last;
        }

        private static boolean toldLast(State s, int r) {
            int last = lastWriting(s, r);
            return s.ofAct(r, State.TOLD) == (last == NONE ? 0 : s.ofAct(last, State.WRITES));
        }

        /** Whether r may have told what w wrote, though w is not ahead of it. */
        private static boolean toldBeside(State s, int w, int r) {
            return writesBeside(s, w, r) && s.ofAct(w, State.WRITES) == s.ofAct(r, State.TOLD);
        }

        /** Sources: 0 is the beginning, else an act's number and 1, which rises with the acts of writing; NONE: not regular. */
        private static int greatestSource(State s, int r) {
            for (int w = s.get(State.ACTS) - 1; w >= 0; w--) {
                if (toldBeside(s, w, r)) return w + 1;
            }
            return toldLast(s, r) ? lastWriting(s, r) + 1 : NONE;
        }

        private static int leastSource(State s, int r) {
            if (toldLast(s, r)) return lastWriting(s, r) + 1;
            for (int w = 0; w < s.get(State.ACTS); w++) {
                if (toldBeside(s, w, r)) return w + 1;
            }
            return NONE;
        }

        private boolean goesBack(State s, int r) {
            int greatest = greatestSource(s, r);
            if (greatest == NONE) return false;
            for (int q = 0; q < s.get(State.ACTS); q++) {
                // What is not regular has no source: its least one is below all.
                if (judges(s, q) && isAhead(s, q, r) && greatest < leastSource(s, q)) return true;
            }
            return false;
        }
    }

    /** All ways in which the acts that are under way may end, gone through one after the other. */
    private static final class Ways {
        static final int MOST_STEPS = 40;
        private static final int MOST_WAYS = 500, MOST_TURNS = 1000000;

        private final Shelf levels = new Shelf(MOST_STEPS + 1);
        private final Shelf behindFirstBad = new Shelf(1);
        private final State walker = new State();
        private final int[] nextProcess = new int[MOST_STEPS + 1];
        private final int[] nextChoice = new int[MOST_STEPS + 1];
        private boolean known;
        int count, badCount, firstBad, firstBadSteps, longest;

        void forget() {
            known = false;
        }

        void goFirstBad(State s) {
            behindFirstBad.take(0, s);
        }

        void goThrough(State from, Judge judge) {
            if (known) return;
            known = true;
            count = 0;
            badCount = 0;
            firstBad = NONE;
            firstBadSteps = 0;
            longest = 0;
            levels.put(0, from);
            open(0);
            int depth = 0;
            for (int turn = 0; turn < MOST_TURNS && depth >= 0 && count < MOST_WAYS; turn++) {
                levels.take(depth, walker);
                if (walker.underWay() == 0) {
                    countWay(depth, judge);
                    depth--;
                } else if (goOn(depth)) {
                    depth++;
                    levels.put(depth, walker);
                    open(depth);
                } else {
                    depth--;
                }
            }
        }

        private void open(int depth) {
            if (depth < 0 || depth > MOST_STEPS) return;
            nextProcess[depth] = 0;
            nextChoice[depth] = 0;
        }

        private void countWay(int steps, Judge judge) {
            longest = Math.max(longest, steps);
            if (!judge.atomic(walker)) {
                if (firstBad == NONE) {
                    firstBad = count;
                    firstBadSteps = steps;
                    behindFirstBad.put(0, walker);
                }
                badCount++;
            }
            count++;
        }

        /** Whether the walker took a step from this level that it had not taken yet. */
        private boolean goOn(int depth) {
            if (depth < 0 || depth >= MOST_STEPS) return false;
            for (int p = nextProcess[depth]; p < walker.processes(); p++) {
                int choice = p == nextProcess[depth] ? nextChoice[depth] : 0;
                if (choice >= Steps.choices(walker, p)) continue;
                nextProcess[depth] = p;
                nextChoice[depth] = choice + 1;
                Steps.go(walker, p, choice);
                return true;
            }
            return false;
        }
    }

    /** Places for states; what is put here is a copy. */
    private static final class Shelf {
        private final int[][] rows;

        Shelf(int places) {
            rows = new int[Math.max(places, 0)][State.SIZE];
        }

        void put(int i, State s) {
            if (i >= 0 && i < rows.length) System.arraycopy(s.row, 0, rows[i], 0, State.SIZE);
        }

        void take(int i, State s) {
            if (i >= 0 && i < rows.length) System.arraycopy(rows[i], 0, s.row, 0, State.SIZE);
        }
    }

    /** What was so ahead of each of the latest deeds; the oldest one makes room. */
    private static final class Deeds {
        static final int MOST = 16;

        private final Shelf shelf = new Shelf(MOST);
        private int oldest, count;

        int size() {
            return count;
        }

        void forget() {
            count = 0;
        }

        void add(State s) {
            shelf.put((oldest + count) % MOST, s);
            if (count < MOST) count++;
            else oldest = (oldest + 1) % MOST;
        }

        void takeBack(int n, State s) {
            count -= n;
            shelf.take((oldest + count) % MOST, s);
        }
    }

    /** Images and the seeds that belong to them. */
    private static final class Images {
        private final Shelf shelf = new Shelf(2);
        private final int[] seeds = {NONE, NONE};

        boolean isImage(int i) {
            return i >= 0 && i < seeds.length;
        }

        boolean isKept(int i) {
            return seedOf(i) != NONE;
        }

        int seedOf(int i) {
            return isImage(i) ? seeds[i] : NONE;
        }

        void store(int i, State s, int seed) {
            if (!isImage(i)) return;
            shelf.put(i, s);
            seeds[i] = seed;
        }

        void restore(int i, State s) {
            shelf.take(i, s);
        }
    }

    /** Entries: an act and what it told. */
    private static final class Book {
        private static final int MOST = 20;

        private final int[] acts = new int[MOST];
        private final int[] values = new int[MOST];
        private int count;

        int size() {
            return count;
        }

        boolean isFull() {
            return count >= MOST;
        }

        void empty() {
            count = 0;
        }

        void add(int a, int v) {
            if (count < 0 || count >= MOST) return;
            acts[count] = a;
            values[count] = v;
            count++;
        }

        int firstWrong(State s) {
            for (int i = 0; i < count && i < MOST; i++) {
                if (acts[i] >= s.get(State.ACTS) || s.ofAct(acts[i], State.TOLD) != values[i]) return i;
            }
            return NONE;
        }
    }
}
