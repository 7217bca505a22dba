import java.util.ArrayList;
import java.util.HashSet;
import java.util.List;
import java.util.Set;

/**
 * A slow second telling of the document, for ModelTest: it keeps nothing but how it is built and the list of moves
 * (beginnings and steps), and makes a log of acts and accesses of these anew for each question.
 */
final class Model {
    static final int NONE = -1, UNKNOWN = -1000000001, OUTSIDE = -1000000002, NOT = -1000000003, FULL = -1000000004;

    /** A beginning (of process p with value x) or a step (of process p with choice x). */
    record Move(boolean begins, int p, int x) { }

    record Built(int build, int poor, int base, int r, int readers) {
        int writers() { return build == 5 ? 2 : 1; }
        int processes() { return writers() + readers; }
        boolean writer(int p) { return p < writers(); }
        int cells() { return build == 2 ? r : build == 4 ? readers * readers : build == 5 ? 2 : 1; }
    }

    record Image(Built built, List<Move> moves, long seed) { }

    static final class Access {
        int p, cell, number, begun = NONE, ended = NONE;
        boolean read;
    }

    static final class Act {
        int p, writes = NONE, told = NONE, start, end = NONE, keptAhead;
        List<Access> done = new ArrayList<>();
        Access next;
        boolean reads() { return writes == NONE; }
    }

    /** What the moves have made. */
    static final class Log {
        final Built b;
        final List<Act> acts = new ArrayList<>();
        final List<Access> accesses = new ArrayList<>();
        final int[] kept = new int[5];
        int time;

        Log(Built b, List<Move> moves) {
            this.b = b;
            for (Move m : moves) make(m);
        }

        void make(Move m) {
            if (m.begins) begin(m.p, m.x); else step(m.p, m.x);
            time++;
        }

        Act underWay(int p) {
            for (Act a : acts) if (a.p == p && a.end == NONE) return a;
            return null;
        }

        int underWay() {
            int n = 0;
            for (Act a : acts) if (a.end == NONE) n++;
            return n;
        }

        void begin(int p, int v) {
            Act a = new Act();
            a.p = p;
            a.start = time;
            a.keptAhead = kept[p];
            if (b.writer(p)) {
                a.writes = v;
                if (b.build == 1) kept[p] = v;
                if (b.build == 3 || b.build == 4) kept[p]++;
            }
            acts.add(a);
            a.next = next(a);
        }

        void step(int p, int choice) {
            Act a = underWay(p);
            Access x = a.next;
            if (x != null) {
                if (x.begun == NONE) {
                    accesses.add(x);
                    x.begun = time;
                    if (b.base != 2) return;
                }
                if (x.read) x.number = choicesOf(x).get(choice);
                x.ended = time;
                a.done.add(x);
                learn(a);
                a.next = next(a);
            }
            if (a.next == null) {
                a.end = time;
                if (a.reads()) a.told = answer(a);
            }
        }

        int held(int c) {
            int held = b.build == 2 && c == 0 ? 1 : 0, at = -1;
            for (Access x : accesses) {
                if (!x.read && x.cell == c && x.ended > at) { at = x.ended; held = x.number; }
            }
            return held;
        }

        int heldAt(int c, int when) {
            int held = b.build == 2 && c == 0 ? 1 : 0, at = -1;
            for (Access x : accesses) {
                if (!x.read && x.cell == c && x.ended != NONE && x.ended < when && x.ended > at) { at = x.ended; held = x.number; }
            }
            return held;
        }

        List<Integer> choicesOf(Access read) {
            List<Integer> can = new ArrayList<>();
            List<Access> over = new ArrayList<>();
            for (Access w : accesses) {
                if (!w.read && w.cell == read.cell && w.begun < time && (w.ended == NONE || w.ended > read.begun)) over.add(w);
            }
            over.sort((x, y) -> x.begun - y.begun);
            if (b.base == 2 || over.isEmpty()) {
                can.add(held(read.cell));
            } else if (b.base == 0) {
                for (int i = 0; i < (b.build == 2 ? 2 : b.r); i++) can.add(i);
            } else {
                can.add(heldAt(read.cell, read.begun));
                for (Access w : over) if (!can.contains(w.number)) can.add(w.number);
            }
            return can;
        }

        int choices(int p) {
            Act a = underWay(p);
            if (a == null) return 0;
            if (a.next == null || !a.next.read || a.next.begun == NONE) return 1;
            return choicesOf(a.next).size();
        }

        Access read(Act a, int c) {
            Access x = new Access();
            x.p = a.p;
            x.read = true;
            x.cell = c;
            return x;
        }

        Access write(Act a, int c, int number) {
            Access x = new Access();
            x.p = a.p;
            x.cell = c;
            x.number = number;
            return x;
        }

        /** All cells that the reader is told something in by others, or tells others something in, rising. */
        List<Integer> links(int reader, boolean told) {
            List<Integer> cells = new ArrayList<>();
            int c = b.readers;
            for (int i = 0; i < b.readers; i++) {
                for (int j = 0; j < b.readers; j++) {
                    if (i == j) continue;
                    if ((told ? j : i) == reader) cells.add(c);
                    c++;
                }
            }
            return cells;
        }

        int greatestGot(Act a, int least) {
            int g = least;
            for (Access x : a.done) if (x.read) g = Math.max(g, x.number);
            return g;
        }

        Access next(Act a) {
            int n = a.done.size(), v = a.writes;
            boolean poor = b.poor == 1;
            switch (b.build) {
                case 0: case 1:
                    if (n == 1 || b.build == 1 && !poor && !a.reads() && a.keptAhead == v) return null;
                    return a.reads() ? read(a, 0) : write(a, 0, v);
                case 2: {
                    if (a.reads()) return n == b.r || n > 0 && a.done.get(n - 1).number == 1 ? null : read(a, n);
                    List<Access> row = new ArrayList<>();
                    if (poor) {
                        for (int c = 0; c < b.r; c++) if (c != v) row.add(write(a, c, 0));
                        row.add(write(a, v, 1));
                    } else {
                        row.add(write(a, v, 1));
                        for (int c = v - 1; c >= 0; c--) row.add(write(a, c, 0));
                    }
                    return n < row.size() ? row.get(n) : null;
                }
                case 3:
                    if (n == 1) return null;
                    return a.reads() ? read(a, 0) : write(a, 0, 100 * (a.keptAhead + 1) + v);
                case 4: {
                    if (!a.reads()) return n == b.readers ? null : write(a, n, 100 * (a.keptAhead + 1) + v);
                    List<Access> row = new ArrayList<>();
                    int i = a.p - 1;
                    row.add(read(a, i));
                    if (!poor) {
                        for (int c : links(i, true)) row.add(read(a, c));
                        for (int c : links(i, false)) row.add(write(a, c, greatestGot(a, a.keptAhead)));
                    }
                    return n < row.size() ? row.get(n) : null;
                }
                default:
                    if (a.reads()) return n == 2 ? null : read(a, n);
                    if (poor) return n == 1 ? null : write(a, a.p, 100 * (a.keptAhead + 1) + 10 * a.p + v);
                    if (n < 2) return read(a, n);
                    return n == 3 ? null : write(a, a.p, 100 * (greatestGot(a, 0) / 100 + 1) + 10 * a.p + v);
            }
        }

        /** What a process keeps behind an access that ended. */
        void learn(Act a) {
            int n = a.done.size();
            Access x = a.done.get(n - 1);
            if (b.build == 3 && a.reads() && b.poor == 0 && x.number / 100 >= kept[a.p] / 100) kept[a.p] = x.number;
            if (b.build == 4 && a.reads() && n == (b.poor == 1 ? 1 : b.readers)) kept[a.p] = greatestGot(a, a.keptAhead);
            if (b.build == 5 && !a.reads() && !x.read) kept[a.p] = x.number / 100;
        }

        int answer(Act a) {
            Access last = a.done.get(a.done.size() - 1);
            switch (b.build) {
                case 2: return last.cell;
                case 3: return (b.poor == 1 ? last.number : kept[a.p]) % 10;
                case 4: return kept[a.p] % 10;
                case 5: return greatestGot(a, 0) % 10;
                default: return last.number;
            }
        }

        // ---- judged

        boolean ahead(Act a, Act b) { return a.end != NONE && a.end < b.start; }

        boolean judged(Act a) { return b.writers() == 1 && a.reads() && a.end != NONE; }

        Act lastAhead(Act read) {
            Act last = null;
            for (Act w : acts) if (!w.reads() && ahead(w, read) && (last == null || w.end > last.end)) last = w;
            return last;
        }

        int last(Act read) {
            Act w = lastAhead(read);
            return w == null ? 0 : w.writes;
        }

        List<Act> over(Act read) {
            List<Act> list = new ArrayList<>();
            for (Act w : acts) {
                if (w.reads()) continue;
                if (w.end == NONE ? w.start < read.end : !ahead(w, read) && !ahead(read, w)) list.add(w);
            }
            return list;
        }

        boolean safe(Act read) { return !over(read).isEmpty() || read.told == last(read); }

        boolean regular(Act read) { return !mayHaveTold(read).isEmpty(); }

        int numberOf(Act write) {
            int n = 0;
            if (write == null) return n;
            for (Act w : acts) {
                if (!w.reads()) n++;
                if (w == write) return n;
            }
            throw new IllegalStateException();
        }

        List<Integer> mayHaveTold(Act read) {
            List<Integer> numbers = new ArrayList<>();
            if (last(read) == read.told) numbers.add(numberOf(lastAhead(read)));
            for (Act w : over(read)) if (w.writes == read.told) numbers.add(numberOf(w));
            return numbers;
        }

        boolean goesBack(Act read) {
            if (!regular(read)) return false;
            int greatest = mayHaveTold(read).stream().mapToInt(x -> x).max().getAsInt();
            for (Act q : acts) {
                if (!judged(q) || !regular(q) || !ahead(q, read)) continue;
                if (greatest < mayHaveTold(q).stream().mapToInt(x -> x).min().getAsInt()) return true;
            }
            return false;
        }

        /** Tries all rows, one act behind the other; a set of acts with a last value that led to nothing is not tried again. */
        boolean atomic() { return atomic(new ArrayList<>(), 0, new HashSet<>()); }

        private boolean atomic(List<Act> row, int value, Set<String> tried) {
            StringBuilder key = new StringBuilder().append(value).append(':');
            for (Act a : acts) key.append(row.contains(a) ? '1' : '0');
            if (!tried.add(key.toString())) return false;
            boolean all = true;
            for (Act a : acts) if (a.end != NONE && !row.contains(a)) all = false;
            if (all) return true;
            for (Act a : acts) {
                if (row.contains(a) || a.reads() && (a.end == NONE || a.told != value)) continue;
                boolean early = false;
                for (Act q : acts) if (!row.contains(q) && ahead(q, a)) early = true;
                if (early) continue;
                row.add(a);
                if (atomic(row, a.reads() ? value : a.writes, tried)) return true;
                row.remove(row.size() - 1);
            }
            return false;
        }
    }

    Built built = new Built(0, 0, 0, 2, 1);
    List<Move> moves = new ArrayList<>();
    List<List<Move>> ahead = new ArrayList<>();
    List<int[]> book = new ArrayList<>();
    Image[] images = new Image[2];
    long seed;
    private Log log;

    Log log() {
        if (log == null) log = new Log(built, moves);
        return log;
    }

    private void remember() {
        ahead.add(new ArrayList<>(moves));
        if (ahead.size() > 16) ahead.remove(0);
        log = null;
    }

    private void anew() {
        moves = new ArrayList<>();
        ahead.clear();
        log = null;
    }

    // ---- all ways

    private final List<List<Move>> ways = new ArrayList<>();
    private final List<Boolean> waysBad = new ArrayList<>();

    private void findWays() {
        ways.clear();
        waysBad.clear();
        findWays(new ArrayList<>());
    }

    private void findWays(List<Move> way) {
        if (ways.size() == 500) return;
        List<Move> all = new ArrayList<>(moves);
        all.addAll(way);
        Log l = new Log(built, all);
        if (l.underWay() == 0) {
            ways.add(new ArrayList<>(way));
            waysBad.add(!l.atomic());
            return;
        }
        for (int p = 0; p < built.processes(); p++) {
            for (int c = 0; c < l.choices(p); c++) {
                way.add(new Move(false, p, c));
                findWays(way);
                way.remove(way.size() - 1);
            }
        }
    }

    // ---- the face

    int told(int what) {
        Log l = log();
        switch (what) {
            case 0: return built.build;
            case 1: return built.poor;
            case 2: return built.base;
            case 3: return built.r;
            case 4: return built.readers;
            case 5: return built.processes();
            case 6: return built.cells();
            case 7: return l.acts.size();
            case 8: return l.underWay();
            case 9: return l.time;
            case 10: return l.atomic() ? 1 : 0;
            case 11: for (Act a : l.acts) if (l.judged(a) && !l.safe(a)) return l.acts.indexOf(a); return NONE;
            case 12: for (Act a : l.acts) if (l.judged(a) && !l.regular(a)) return l.acts.indexOf(a); return NONE;
            case 13: for (Act a : l.acts) if (l.judged(a) && l.goesBack(a)) return l.acts.indexOf(a); return NONE;
            case 14: {
                int g = 0;
                for (int c = 0; c < built.cells(); c++) if (built.build >= 3) g = Math.max(g, l.held(c) / 100);
                return g;
            }
            case 15: return book.size();
            case 16:
                for (int i = 0; i < book.size(); i++) {
                    int a = book.get(i)[0];
                    if (a >= l.acts.size() || l.acts.get(a).told != book.get(i)[1]) return i;
                }
                return NONE;
            case 17: return ahead.size();
            case 18: return (int) seed;
            default: return OUTSIDE;
        }
    }

    int cell(int c) { return c < 0 || c >= built.cells() ? UNKNOWN : log().held(c); }

    int process(int p, int what) {
        if (p < 0 || p >= built.processes()) return UNKNOWN;
        if (what < 0 || what > 5) return OUTSIDE;
        Log l = log();
        Act a = l.underWay(p);
        switch (what) {
            case 0: return a == null ? NONE : l.acts.indexOf(a);
            case 1: return a == null ? 0 : a.done.size();
            case 2: return a == null || a.next == null || a.next.begun == NONE ? 0 : 1;
            case 3: return a == null || a.next == null ? NONE : a.next.cell;
            case 4: return l.choices(p);
            default: return l.kept[p];
        }
    }

    int act(int a, int what) {
        Log l = log();
        if (a < 0 || a >= l.acts.size()) return UNKNOWN;
        Act x = l.acts.get(a);
        switch (what) {
            case 0: return x.p;
            case 1: return x.writes;
            case 2: return x.told;
            case 3: return x.start;
            case 4: return x.end;
            case 5: return l.judged(x) ? l.safe(x) ? 1 : 0 : NONE;
            case 6: return l.judged(x) ? l.regular(x) ? 1 : 0 : NONE;
            default: return OUTSIDE;
        }
    }

    int ways(int what) {
        if (what < 0 || what > 3) return OUTSIDE;
        findWays();
        int longest = 0, bad = 0;
        for (List<Move> w : ways) longest = Math.max(longest, w.size());
        for (boolean b : waysBad) if (b) bad++;
        return what == 0 ? ways.size() : what == 1 ? bad : what == 2 ? waysBad.indexOf(true) : longest;
    }

    int build(int build, int poor, int base, int r, int readers) {
        if (build < 0 || build > 5 || poor < 0 || poor > 1 || base < 0 || base > 2 || r < 2 || r > 4 || readers < 1 || readers > 3) return OUTSIDE;
        if (build == 1 && r > 2 || build == 3 && readers > 1) return NOT;
        if ((build == 3 || build == 4) && base != 1 || build == 5 && base != 2) return NOT;
        built = new Built(build, poor, base, r, readers);
        anew();
        return built.processes();
    }

    int clear() {
        int n = log().acts.size();
        anew();
        return n;
    }

    int begin(int p, int v) {
        if (p < 0 || p >= built.processes()) return UNKNOWN;
        if (built.writer(p) && (v < 0 || v >= built.r)) return OUTSIDE;
        if (log().underWay(p) != null) return NOT;
        int n = log().acts.size();
        if (n == 7) return FULL;
        remember();
        moves.add(new Move(true, p, v));
        return n;
    }

    int step(int p, int choice) {
        if (p < 0 || p >= built.processes()) return UNKNOWN;
        if (log().underWay(p) == null) return NOT;
        if (choice < 0 || choice >= log().choices(p)) return OUTSIDE;
        remember();
        moves.add(new Move(false, p, choice));
        return log().underWay(p) == null ? 1 : 0;
    }

    int run() {
        if (log().underWay() == 0) return NOT;
        findWays();
        remember();
        moves.addAll(ways.get(0));
        return ways.get(0).size();
    }

    int bad() {
        findWays();
        int i = waysBad.indexOf(true);
        if (i < 0) return NOT;
        remember();
        moves.addAll(ways.get(i));
        return ways.get(i).size();
    }

    int draw(int n) {
        seed = (seed * 1103515245L + 12345L) % (1L << 31);
        return (int) (seed / 65536 % n);
    }

    int drift(int n) {
        if (n < 1 || n > 20) return OUTSIDE;
        for (int i = 0; i < n; i++) {
            int p = draw(built.processes());
            if (log().underWay(p) != null) step(p, draw(log().choices(p)));
            else if (log().acts.size() < 7) begin(p, built.writer(p) ? draw(built.r) : 0);
        }
        return log().time;
    }

    int undo(int n) {
        if (n < 1 || n > 16) return OUTSIDE;
        if (n > ahead.size()) return NOT;
        for (int i = 0; i < n; i++) moves = ahead.remove(ahead.size() - 1);
        log = null;
        return ahead.size();
    }

    int write(int a, int v) {
        if (a < 0 || a >= log().acts.size()) return UNKNOWN;
        if (book.size() == 20) return FULL;
        book.add(new int[] {a, v});
        return book.size();
    }

    int tear() {
        int n = book.size();
        book.clear();
        return n;
    }

    int seed(int v) {
        if (v < 0) return OUTSIDE;
        int was = (int) seed;
        seed = v;
        return was;
    }

    int keep(int i) {
        if (i < 0 || i > 1) return UNKNOWN;
        images[i] = new Image(built, new ArrayList<>(moves), seed);
        ahead.clear();
        return 1;
    }

    int goBack(int i) {
        if (i < 0 || i > 1) return UNKNOWN;
        if (images[i] == null) return NOT;
        anew();
        built = images[i].built;
        moves = new ArrayList<>(images[i].moves);
        seed = images[i].seed;
        return 1;
    }
}
