import java.util.Arrays;

/** Each promise of the document by calls whose answers were worked out by hand. */
public final class PromiseTest extends Checks {
    public static void main(String[] args) {
        newObject();
        toldOfTheBuild();
        toldOfTheHistory();
        cell();
        process();
        processByBuilds();
        act();
        ways();
        build();
        clear();
        begin();
        step();
        choices();
        buildChanges();
        buildRow();
        buildRemembers();
        buildTellsOneAnother();
        buildTwoWriters();
        run();
        bad();
        drift();
        undo();
        book();
        seed();
        images();
        end("all promises hold");
    }

    private static void newObject() {
        of("promise 1");
        StrongCells x = new StrongCells();
        due("told", told(x), 0, 0, 0, 2, 1, 2, 1, 0, 0, 0, 1, NONE, NONE, NONE, 0, 0, NONE, 0, 0);
        due("cells", cells(x), 0);
        due("process 0", process(x, 0), NONE, 0, 0, NONE, 0, 0);
        due("process 1", process(x, 1), NONE, 0, 0, NONE, 0, 0);
        due("ways", ways(x), 1, 0, NONE, 0);
        due("goBack(0)", x.goBack(0), NOT);
        due("goBack(1)", x.goBack(1), NOT);
        due("undo(1)", x.undo(1), NOT);
        due("tear()", x.tear(), 0);
    }

    private static void toldOfTheBuild() {
        of("promise 2");
        due("told", told(built(2, 1, 0, 4, 3)), 2, 1, 0, 4, 3, 4, 4, 0, 0, 0, 1, NONE, NONE, NONE, 0, 0, NONE, 0, 0);
        due("told", told(built(4, 0, 1, 3, 3)), 4, 0, 1, 3, 3, 4, 9, 0, 0, 0, 1, NONE, NONE, NONE, 0, 0, NONE, 0, 0);
        due("told", told(built(5, 0, 2, 3, 3)), 5, 0, 2, 3, 3, 5, 2, 0, 0, 0, 1, NONE, NONE, NONE, 0, 0, NONE, 0, 0);
        due("cells of 1", built(1, 0, 0, 2, 3).told(6), 1);
        due("cells of 3", built(3, 0, 1, 2, 1).told(6), 1);
        due("cells of 4", built(4, 0, 1, 2, 1).told(6), 1);
        StrongCells x = new StrongCells();
        for (int what : new int[] {-1, 19, FAR, FAR_BELOW}) due("told(" + what + ")", x.told(what), OUTSIDE);
    }

    private static void toldOfTheHistory() {
        of("promise 2");
        StrongCells x = built(0, 0, 0, 4, 2);
        x.begin(0, 1);
        x.begin(1, 0);
        x.begin(2, 0);
        due("told(7)", x.told(7), 3);
        due("told(8)", x.told(8), 3);
        due("told(9)", x.told(9), 3);
        x.step(0, 0);
        x.step(1, 0);
        x.step(1, 3);
        // 3 was written by none, but a writing overlaps: safe, not regular.
        due("told(8)", x.told(8), 2);
        due("told(10)", x.told(10), 0);
        due("told(11)", x.told(11), NONE);
        due("told(12)", x.told(12), 1);
        due("told(13)", x.told(13), NONE);
        due("told(14) has no tags", x.told(14), 0);
        due("told(17)", x.told(17), 6);

        // A read behind the writing of 1 that tells 0: by poor relays the other reader's cell is not written yet.
        x = built(4, 1, 1, 2, 2);
        x.begin(0, 1);
        x.step(0, 0);
        x.step(0, 0);
        due("told(14)", x.told(14), 1);
        whole(x, 1, 0);
        due("read by 1", x.act(1, 2), 1);
        whole(x, 2, 0);
        due("read by 2", x.act(2, 2), 0);
        due("told(10)", x.told(10), 0);
        due("told(11)", x.told(11), NONE);
        due("told(12)", x.told(12), NONE);
        due("told(13)", x.told(13), 2);

        // Not regular: neither goes back, nor is looked at as one ahead.
        x = built(0, 0, 0, 4, 1);
        x.begin(0, 1);
        x.step(0, 0);
        x.begin(1, 0);
        x.step(1, 0);
        x.step(1, 2);
        x.begin(1, 0);
        x.step(1, 0);
        x.step(1, 0);
        due("told(12)", x.told(12), 1);
        due("told(13)", x.told(13), NONE);
        x.begin(1, 0);
        x.step(1, 0);
        x.step(1, 1);
        x.begin(1, 0);
        x.step(1, 0);
        x.step(1, 3);
        due("told(13)", x.told(13), NONE);
        x.begin(1, 0);
        x.step(1, 0);
        x.step(1, 0);
        due("told(13) looks past what is not regular", x.told(13), 5);
        due("told(12) the first one", x.told(12), 1);

        twoWritersAreNotJudgedSingly();
        slowReads();
        backAndForth();
    }

    private static void backAndForth() {
        // The read ahead is the first act of all.
        StrongCells x = new StrongCells();
        x.begin(1, 0);
        x.begin(0, 1);
        x.step(1, 0);
        x.step(0, 0);
        x.step(1, 1);
        whole(x, 1, 0);
        due("told(13)", x.told(13), 2);

        // 1 was written, 0 is under way: 0 is of the second writing, 1 of the first.
        x = new StrongCells();
        whole(x, 0, 1);
        x.begin(0, 0);
        x.step(0, 0);
        int[] values = {1, 0, 0, 1, 0};
        for (int v : values) {
            x.begin(1, 0);
            x.step(1, 0);
            x.step(1, v);
        }
        due("of the first one, then of the second one twice, then back", x.told(13), 5);
        due("told(12)", x.told(12), NONE);
        due("told(10)", x.told(10), 0);
        x.undo(6);
        due("the same one twice does not go back", x.told(13), NONE);
        due("told(10)", x.told(10), 1);
        toEnd(x, 0);
        whole(x, 1, 0);
        whole(x, 1, 0);
        due("behind it twice", x.told(13), NONE);
        due("told(10)", x.told(10), 1);

        // The same value is written again: the reads may have told either.
        x = new StrongCells();
        whole(x, 0, 1);
        x.begin(0, 1);
        x.step(0, 0);
        for (int i = 0; i < 3; i++) {
            x.begin(1, 0);
            x.step(1, 0);
            x.step(1, 1);
        }
        due("either", x.told(13), NONE);
        due("told(10)", x.told(10), 1);
    }

    private static void twoWritersAreNotJudgedSingly() {
        StrongCells x = built(5, 1, 2, 4, 1);
        whole(x, 1, 3);
        whole(x, 0, 2);
        whole(x, 2, 0);
        // Poor: both have stamp 1, so that the later writing is not seen.
        due("told 3", x.act(2, 2), 3);
        due("told(10)", x.told(10), 0);
        due("told(11)", x.told(11), NONE);
        due("told(12)", x.told(12), NONE);
        due("told(13)", x.told(13), NONE);
        due("told(14)", x.told(14), 1);
    }

    private static void slowReads() {
        StrongCells x = built(2, 1, 1, 3, 1);
        whole(x, 0, 2);
        due("cells", cells(x), 0, 0, 1);
        whole(x, 1, 0);
        due("read", x.act(1, 2), 2);
        due("told(11)", x.told(11), NONE);
        due("told(10)", x.told(10), 1);

        // It passed cell 0 ahead of a writing of 0, and tells what was written ahead of that.
        x = built(2, 0, 2, 3, 1);
        whole(x, 0, 2);
        x.begin(1, 0);
        x.step(1, 0);
        whole(x, 0, 0);
        x.step(1, 0);
        due("the last bit is there yet", x.step(1, 0), 1);
        due("read", x.act(1, 2), 2);
        due("regular", x.act(1, 6), 1);
        due("told(12)", x.told(12), NONE);
        due("told(10)", x.told(10), 1);
    }

    private static void cell() {
        of("promise 3");
        StrongCells x = built(2, 0, 0, 3, 1);
        due("cells", cells(x), 1, 0, 0);
        for (int c : new int[] {-1, 3, FAR, FAR_BELOW}) due("cell(" + c + ")", x.cell(c), UNKNOWN);
        x.begin(0, 1);
        x.step(0, 0);
        due("a write that has not ended", cells(x), 1, 0, 0);
        x.step(0, 0);
        due("a write that ended", cells(x), 1, 1, 0);
        toEnd(x, 0);
        due("all", cells(x), 0, 1, 0);
        x.clear();
        due("at first", cells(x), 1, 0, 0);
        x = built(5, 0, 2, 4, 1);
        due("cells", cells(x), 0, 0);
        due("cell(2)", x.cell(2), UNKNOWN);
        whole(x, 1, 3);
        due("a tag of writer 1", cells(x), 0, 113);
        x.build(4, 0, 1, 2, 3);
        due("cells", cells(x), 0, 0, 0, 0, 0, 0, 0, 0, 0);
        due("cell(9)", x.cell(9), UNKNOWN);
    }

    private static void process() {
        of("promise 4");
        StrongCells x = new StrongCells();
        for (int p : new int[] {-1, 2, FAR, FAR_BELOW}) due("process(" + p + ", 0)", x.process(p, 0), UNKNOWN);
        for (int what : new int[] {-1, 6, FAR, FAR_BELOW}) due("process(0, " + what + ")", x.process(0, what), OUTSIDE);
        due("UNKNOWN first", x.process(2, 6), UNKNOWN);
        x.build(0, 0, 1, 4, 3);
        due("process(3, 0)", x.process(3, 0), NONE);
        due("process(4, 0)", x.process(4, 0), UNKNOWN);
        x.begin(3, 0);
        due("reader", process(x, 3), 0, 0, 0, 0, 1, 0);
        x.step(3, 0);
        due("reader", process(x, 3), 0, 0, 1, 0, 1, 0);
        x.begin(0, 2);
        due("writer", process(x, 0), 1, 0, 0, 0, 1, 0);
        x.step(0, 0);
        due("writer", process(x, 0), 1, 0, 1, 0, 1, 0);
        due("reader may choose", process(x, 3), 0, 0, 1, 0, 2, 0);
        x.step(0, 0);
        due("writer", process(x, 0), NONE, 0, 0, NONE, 0, 0);
        due("reader may choose yet", process(x, 3), 0, 0, 1, 0, 2, 0);
        x.step(3, 1);
        due("reader", process(x, 3), NONE, 0, 0, NONE, 0, 0);
        due("told", x.act(0, 2), 2);
    }

    private static void processByBuilds() {
        of("promise 4");
        StrongCells x = built(1, 1, 0, 2, 1);
        x.begin(0, 1);
        due("keeps the value from the beginning on, poor too", process(x, 0), 0, 0, 0, 0, 1, 1);
        x = built(2, 0, 1, 4, 1);
        x.begin(0, 3);
        int[] cells = new int[4];
        for (int i = 0; i < 4; i++) {
            cells[i] = x.process(0, 3);
            due("ended", x.process(0, 1), i);
            x.step(0, 0);
            due("begun", x.process(0, 2), 1);
            due("the cell stays", x.process(0, 3), cells[i]);
            x.step(0, 0);
        }
        due("cells written", cells, 3, 2, 1, 0);
        x.build(2, 1, 1, 4, 1);
        x.begin(0, 1);
        for (int i = 0; i < 4; i++) {
            cells[i] = x.process(0, 3);
            x.step(0, 0);
            x.step(0, 0);
        }
        due("cells written, poor", cells, 0, 2, 3, 1);
        x = built(5, 0, 2, 2, 2);
        x.begin(1, 1);
        due("reads 0", process(x, 1), 0, 0, 0, 0, 1, 0);
        x.step(1, 0);
        due("reads 1", process(x, 1), 0, 1, 0, 1, 1, 0);
        x.step(1, 0);
        due("writes its own, keeps the stamp as it writes", process(x, 1), 0, 2, 0, 1, 1, 0);
        x.step(1, 0);
        due("keeps the stamp", process(x, 1), NONE, 0, 0, NONE, 0, 1);
        x.begin(3, 0);
        x.step(3, 0);
        x.step(3, 0);
        due("a reader keeps nothing", x.process(3, 5), 0);
    }

    private static void act() {
        of("promise 5");
        StrongCells x = new StrongCells();
        due("act(0, 0)", x.act(0, 0), UNKNOWN);
        due("UNKNOWN first", x.act(0, 7), UNKNOWN);
        x.begin(0, 1);
        x.begin(1, 1);
        due("a writing", act(x, 0), 0, 1, NONE, 0, NONE, NONE, NONE);
        due("a read", act(x, 1), 1, NONE, NONE, 1, NONE, NONE, NONE);
        for (int a : new int[] {-1, 2, FAR, FAR_BELOW}) due("act(" + a + ", 0)", x.act(a, 0), UNKNOWN);
        for (int what : new int[] {-1, 7, FAR, FAR_BELOW}) due("act(0, " + what + ")", x.act(0, what), OUTSIDE);
        x.step(1, 0);
        x.step(1, 0);
        due("a writing that has not ended overlaps", act(x, 1), 1, NONE, 0, 1, 3, 1, 1);
        x.step(0, 0);
        x.step(0, 0);
        due("a writing that ended", act(x, 0), 0, 1, NONE, 0, 5, NONE, NONE);
        whole(x, 1, 0);
        due("LAST", act(x, 2), 1, NONE, 1, 6, 8, 1, 1);

        x = built(0, 0, 0, 3, 1);
        x.begin(1, 0);
        x.begin(0, 1);
        x.step(1, 0);
        x.step(0, 0);
        x.step(0, 0);
        due("any", x.process(1, 4), 3);
        x.step(1, 2);
        due("safe, not regular", act(x, 0), 1, NONE, 2, 0, 5, 1, 0);
        due("told(12)", x.told(12), 0);
        due("told(10)", x.told(10), 0);
        whole(x, 0, 2);
        due("it is no better for a writing behind it", x.act(0, 6), 0);

        // What was written ahead of the last one ahead is gone.
        x = built(0, 0, 0, 4, 1);
        whole(x, 0, 3);
        whole(x, 0, 1);
        x.begin(0, 2);
        x.step(0, 0);
        int[] regular = {0, 1, 1, 0};
        for (int v = 0; v < 4; v++) {
            x.begin(1, 0);
            x.step(1, 0);
            x.step(1, v);
            due("of " + v, act(x, 3 + v), 1, NONE, v, 8 + 3 * v, 10 + 3 * v, 1, regular[v]);
        }

        // The read ended ahead of the writing's START: that does not overlap it.
        x = built(0, 0, 1, 2, 1);
        whole(x, 1, 0);
        x.begin(0, 1);
        due("regular", act(x, 0), 1, NONE, 0, 0, 2, 1, 1);

        x = built(5, 0, 2, 2, 1);
        whole(x, 2, 0);
        due("two writers", act(x, 0), 2, NONE, 0, 0, 2, NONE, NONE);

        fallenThrough();
    }

    private static void fallenThrough() {
        // Poor build 2 leaves no bit at all for a while: a read falls through to R less 1.
        StrongCells x = built(2, 1, 2, 3, 1);
        x.begin(0, 1);
        x.step(0, 0);
        whole(x, 1, 0);
        due("read fell through", x.act(1, 2), 2);
        due("safe", x.act(1, 5), 1);
        due("not regular", x.act(1, 6), 0);
        due("told(11)", x.told(11), NONE);
        due("told(12)", x.told(12), 1);
        due("told(10)", x.told(10), 0);
    }

    private static void ways() {
        of("promise 6");
        StrongCells x = new StrongCells();
        for (int what : new int[] {-1, 4, FAR, FAR_BELOW}) due("ways(" + what + ")", x.ways(what), OUTSIDE);
        x.begin(0, 1);
        due("one alone", ways(x), 1, 0, NONE, 2);
        x.begin(1, 0);
        // Rows of two and two steps: 6. In 4 of these the read overlaps the write, and has two choices: 10.
        due("two", ways(x), 10, 0, NONE, 4);
        due("asking changes nothing", x.told(9), 2);
        x = built(0, 0, 2, 2, 2);
        x.begin(0, 1);
        x.begin(1, 0);
        x.begin(2, 0);
        due("three of a step each", ways(x), 6, 0, NONE, 3);
        x = built(2, 0, 2, 4, 3);
        x.begin(0, 3);
        x.begin(1, 0);
        x.begin(2, 0);
        x.begin(3, 0);
        due("the first 500 alone", x.ways(0), 500);
        due("the longest of these: the write's 4 steps, then reads of 4", x.ways(3), 16);
        x = new StrongCells();
        x.begin(0, 1);
        x.step(0, 0);
        x.begin(1, 0);
        x.step(1, 0);
        x.step(1, 1);
        x.begin(1, 0);
        x.step(1, 0);
        // The read told 1; the next one may yet tell 0: 0: w r0, 1: w r1, 2: r0 w, 3: r1 w.
        due("two are bad", ways(x), 4, 2, 0, 2);
        x.step(1, 0);
        due("all are bad", ways(x), 1, 1, 0, 1);
        x.step(0, 0);
        due("the one of no steps is bad", ways(x), 1, 1, 0, 0);
    }

    private static void build() {
        of("promise 7");
        StrongCells x = new StrongCells();
        x.build(2, 1, 0, 3, 2);
        x.begin(0, 1);
        x.step(0, 0);
        String was = all(x);
        int[][] outside = {{-1, 0, 0, 2, 1}, {6, 0, 0, 2, 1}, {0, -1, 0, 2, 1}, {0, 2, 0, 2, 1}, {0, 0, -1, 2, 1}, {0, 0, 3, 2, 1},
            {0, 0, 0, 1, 1}, {0, 0, 0, 5, 1}, {0, 0, 0, 2, 0}, {0, 0, 0, 2, 4}, {1, 0, 0, 3, 4}, {FAR, FAR, FAR, FAR, FAR}, {5, 0, 0, 2, FAR_BELOW}};
        for (int[] a : outside) due("build" + Arrays.toString(a), x.build(a[0], a[1], a[2], a[3], a[4]), OUTSIDE);
        int[][] not = {{1, 0, 0, 3, 1}, {1, 1, 2, 4, 3}, {3, 0, 1, 2, 2}, {3, 1, 1, 2, 3}, {3, 0, 0, 2, 1}, {3, 0, 2, 2, 1}, {4, 0, 0, 2, 1},
            {4, 1, 2, 2, 3}, {5, 0, 0, 2, 1}, {5, 1, 1, 4, 3}};
        for (int[] a : not) due("build" + Arrays.toString(a), x.build(a[0], a[1], a[2], a[3], a[4]), NOT);
        same("refused", all(x), was);
        int[][] good = {{0, 0, 0, 2, 1}, {0, 1, 1, 4, 3}, {1, 0, 0, 2, 1}, {1, 1, 1, 2, 3}, {1, 0, 2, 2, 2}, {2, 0, 0, 2, 1}, {2, 1, 2, 4, 3},
            {3, 0, 1, 2, 1}, {3, 1, 1, 4, 1}, {4, 0, 1, 2, 1}, {4, 1, 1, 4, 3}, {5, 0, 2, 2, 1}, {5, 1, 2, 4, 3}};
        for (int[] a : good) {
            due("build" + Arrays.toString(a), x.build(a[0], a[1], a[2], a[3], a[4]), a[4] + (a[0] == 5 ? 2 : 1));
            for (int i = 0; i < 5; i++) due("told(" + i + ")", x.told(i), a[i]);
        }

        x = built(3, 0, 1, 4, 1);
        whole(x, 0, 3);
        whole(x, 1, 0);
        x.seed(77);
        x.write(1, 3);
        x.keep(1);
        x.begin(0, 1);
        due("ways", ways(x), 1, 0, NONE, 2);
        due("build", x.build(3, 0, 1, 4, 1), 2);
        due("ways", ways(x), 1, 0, NONE, 0);
        due("as it was: all begins anew, seed and book stay", told(x), 3, 0, 1, 4, 1, 2, 1, 0, 0, 0, 1, NONE, NONE, NONE, 0, 1, 0, 0, 77);
        due("keeps nothing", x.process(0, 5) + x.process(1, 5) + x.cell(0), 0);
        due("images stay", x.goBack(1), 1);
        due("acts", x.told(7), 2);
    }

    private static void clear() {
        of("promise 8");
        StrongCells x = built(4, 0, 1, 3, 2);
        due("clear()", x.clear(), 0);
        whole(x, 0, 2);
        whole(x, 1, 0);
        x.begin(2, 0);
        x.seed(5);
        x.write(0, NONE);
        x.keep(0);
        x.step(2, 0);
        due("ways(3)", x.ways(3), 5);
        due("clear()", x.clear(), 3);
        due("ways(3)", x.ways(3), 0);
        due("told", told(x), 4, 0, 1, 3, 2, 3, 4, 0, 0, 0, 1, NONE, NONE, NONE, 0, 1, 0, 0, 5);
        due("cells", cells(x), 0, 0, 0, 0);
        for (int p = 0; p < 3; p++) due("process " + p, process(x, p), NONE, 0, 0, NONE, 0, 0);
        due("undo(1)", x.undo(1), NOT);
        due("goBack(0)", x.goBack(0), 1);
        due("told(7)", x.told(7), 3);
    }

    private static void begin() {
        of("promise 9");
        StrongCells x = built(0, 0, 0, 3, 2);
        for (int p : new int[] {-1, 3, FAR, FAR_BELOW}) due("begin(" + p + ", 9)", x.begin(p, 9), UNKNOWN);
        for (int v : new int[] {-1, 3, FAR, FAR_BELOW}) due("begin(0, " + v + ")", x.begin(0, v), OUTSIDE);
        due("nothing to undo", x.told(17), 0);
        due("begin(0, 2)", x.begin(0, 2), 0);
        due("OUTSIDE ahead of NOT", x.begin(0, 3), OUTSIDE);
        due("NOT", x.begin(0, 1), NOT);
        due("a reader's v has no say", x.begin(2, FAR_BELOW), 1);
        due("what it writes", x.act(1, 1), NONE);
        due("NOT", x.begin(2, 0), NOT);
        toEnd(x, 0);
        for (int a = 2; a < 7; a++) {
            due("begin(0, 0)", x.begin(0, 0), a);
            if (a < 6) toEnd(x, 0);
        }
        due("NOT ahead of FULL", x.begin(0, 0), NOT);
        due("FULL", x.begin(1, 0), FULL);
        String was = all(x);
        due("OUTSIDE ahead of FULL", x.begin(0, -1), OUTSIDE);
        due("UNKNOWN ahead of FULL", x.begin(3, 0), UNKNOWN);
        same("refused", all(x), was);
        x.undo(1);
        due("room again", x.begin(1, 0), 6);
        x = built(5, 0, 2, 2, 1);
        due("the second writer", x.begin(1, 2), OUTSIDE);
        due("the second writer", x.begin(1, 1), 0);
        due("writes", x.act(0, 1), 1);
    }

    private static void step() {
        of("promise 10");
        StrongCells x = built(0, 0, 0, 4, 1);
        for (int p : new int[] {-1, 2, FAR, FAR_BELOW}) due("step(" + p + ", 9)", x.step(p, 9), UNKNOWN);
        due("NOT ahead of OUTSIDE", x.step(1, -1), NOT);
        x.begin(1, 0);
        for (int c : new int[] {-1, 1, FAR, FAR_BELOW}) due("step(1, " + c + ")", x.step(1, c), OUTSIDE);
        due("begins", x.step(1, 0), 0);
        for (int c : new int[] {-1, 1, FAR, FAR_BELOW}) due("step(1, " + c + ")", x.step(1, c), OUTSIDE);
        x.begin(0, 1);
        x.step(0, 0);
        due("a write has one choice", x.step(0, 1), OUTSIDE);
        for (int c : new int[] {-1, 4, FAR, FAR_BELOW}) due("step(1, " + c + ")", x.step(1, c), OUTSIDE);
        due("told(9)", x.told(9), 4);
        due("told(17)", x.told(17), 4);
        due("ends", x.step(1, 3), 1);
        due("told", x.act(0, 2), 3);
        due("END is ahead of the step", x.act(0, 4), 4);
        due("told(9)", x.told(9), 5);
        due("NOT", x.step(1, 0), NOT);
        x = built(0, 0, 2, 4, 1);
        x.begin(0, 3);
        due("by base 2 one event", x.step(0, 0), 1);
        x.begin(1, 0);
        due("by base 2 one event", x.step(1, 0), 1);
        due("told", x.act(1, 2), 3);
    }

    private static void choices() {
        of("promise 10");
        // Regular: what the cell held, then what is written, in order, each number once.
        StrongCells x = built(0, 0, 1, 4, 1);
        whole(x, 0, 2);
        x.begin(0, 3);
        x.step(0, 0);
        x.begin(1, 0);
        x.step(1, 0);
        due("held, and a write under way", x.process(1, 4), 2);
        x.step(0, 0);
        x.begin(0, 1);
        due("not yet begun", x.process(1, 4), 2);
        x.step(0, 0);
        due("a third", x.process(1, 4), 3);
        x.step(0, 0);
        whole(x, 0, 2);
        due("2 was there", x.process(1, 4), 3);
        whole(x, 0, 1);
        due("1 was there", x.process(1, 4), 3);
        whole(x, 0, 0);
        due("a fourth", x.process(1, 4), 4);
        int[] got = new int[4];
        for (int c = 0; c < 4; c++) {
            x.step(1, c);
            got[c] = x.act(2, 2);
            x.undo(1);
        }
        due("in this order", got, 2, 3, 1, 0);

        // A write that ended ahead of the read's beginning, or begins behind its end, does not overlap.
        x = built(0, 0, 0, 3, 2);
        whole(x, 0, 1);
        x.begin(1, 0);
        x.step(1, 0);
        due("none overlaps", x.process(1, 4), 1);
        x.begin(0, 1);
        x.step(0, 0);
        due("the same value written: any, by safe cells", x.process(1, 4), 3);
        x.step(0, 0);
        due("it ended, and overlaps yet", x.process(1, 4), 3);
        x.begin(2, 0);
        x.step(2, 0);
        due("the other read began behind it", x.process(2, 4), 1);
        x.step(2, 0);
        due("what the cell holds", x.act(3, 2), 1);

        x = built(0, 0, 1, 3, 1);
        whole(x, 0, 1);
        x.begin(1, 0);
        x.step(1, 0);
        whole(x, 0, 1);
        due("the same value written: one, by regular cells", x.process(1, 4), 1);

        x = built(2, 0, 0, 4, 1);
        x.begin(0, 2);
        x.step(0, 0);
        x.begin(1, 0);
        x.step(1, 0);
        due("another cell is written", x.process(1, 4), 1);
        x.step(0, 0);
        x.step(0, 0);
        x.step(0, 0);
        due("cell 0 not yet", x.process(1, 4), 1);
        x.step(0, 0);
        due("bits have two choices", x.process(1, 4), 2);
        x.step(1, 0);
        due("next cell", x.process(1, 3), 1);
    }

    private static void buildChanges() {
        of("promises 9, 10");
        StrongCells x = built(1, 0, 0, 2, 1);
        x.begin(0, 0);
        due("no access", process(x, 0), 0, 0, 0, NONE, 1, 0);
        due("the first step ends it", x.step(0, 0), 1);
        due("END", x.act(0, 4), 1);
        x.begin(0, 1);
        due("an access", process(x, 0), 1, 0, 0, 0, 1, 1);
        due("steps", toEnd(x, 0), 2);
        x.begin(0, 1);
        due("no access", process(x, 0), 2, 0, 0, NONE, 1, 1);
        due("no choice but one", x.step(0, 1), OUTSIDE);
        due("steps", toEnd(x, 0), 1);
        due("cell", x.cell(0), 1);
        x.build(1, 1, 0, 2, 1);
        x.begin(0, 0);
        due("poor: an access", process(x, 0), 0, 0, 0, 0, 1, 0);
        due("steps", toEnd(x, 0), 2);
        x.build(1, 0, 2, 2, 1);
        whole(x, 0, 1);
        due("by base 2 too", x.cell(0), 1);
        x.begin(0, 1);
        due("steps", toEnd(x, 0), 1);
    }

    private static void buildRow() {
        of("promises 9, 10");
        StrongCells x = built(2, 0, 2, 4, 1);
        x.begin(0, 2);
        x.step(0, 0);
        due("1 first", cells(x), 1, 0, 1, 0);
        x.step(0, 0);
        due("then 0 below", cells(x), 1, 0, 1, 0);
        due("to cell 0 at last", x.process(0, 3), 0);
        due("ends", x.step(0, 0), 1);
        due("cells", cells(x), 0, 0, 1, 0);
        x.begin(1, 0);
        due("steps of a read of 2", toEnd(x, 1), 3);
        due("told", x.act(1, 2), 2);
        x.begin(0, 0);
        due("one access to write 0", toEnd(x, 0), 1);
        due("what is above stays", cells(x), 1, 0, 1, 0);
        x.begin(1, 0);
        due("steps of a read of 0", toEnd(x, 1), 1);
        due("told", x.act(3, 2), 0);

        x.build(2, 1, 2, 4, 1);
        x.begin(0, 1);
        x.step(0, 0);
        due("poor: 0 first", cells(x), 0, 0, 0, 0);
        x.begin(1, 0);
        due("none got 1", toEnd(x, 1), 4);
        due("R less 1", x.act(1, 2), 3);
        toEnd(x, 0);
        due("1 at last", cells(x), 0, 1, 0, 0);
        x.begin(0, 0);
        due("poor: all cells", toEnd(x, 0), 4);
        due("cells", cells(x), 1, 0, 0, 0);
    }

    private static void buildRemembers() {
        of("promises 9, 10");
        StrongCells x = built(3, 0, 1, 4, 1);
        x.begin(0, 2);
        due("stamp from the beginning on", x.process(0, 5), 1);
        due("cell", x.cell(0), 0);
        toEnd(x, 0);
        due("cell", x.cell(0), 102);
        due("told(14)", x.told(14), 1);
        whole(x, 1, 0);
        due("keeps", x.process(1, 5), 102);
        x.begin(0, 3);
        x.step(0, 0);
        x.begin(1, 0);
        x.step(1, 0);
        x.step(1, 1);
        due("new", x.act(3, 2), 3);
        due("keeps", x.process(1, 5), 203);
        x.begin(1, 0);
        x.step(1, 0);
        due("the old one can be got", x.process(1, 4), 2);
        x.step(1, 0);
        due("but what it keeps is told", x.act(4, 2), 3);
        due("keeps", x.process(1, 5), 203);
        due("atomic", x.told(10), 1);

        x.build(3, 1, 1, 4, 1);
        x.begin(0, 3);
        due("poor: the writer keeps its stamp", x.process(0, 5), 1);
        x.step(0, 0);
        x.begin(1, 0);
        x.step(1, 0);
        x.step(1, 1);
        due("new", x.act(1, 2), 3);
        due("keeps nothing", x.process(1, 5), 0);
        whole(x, 1, 0);
        due("old", x.act(2, 2), 0);
        due("not atomic", x.told(10), 0);
        due("goes back", x.told(13), 2);
    }

    private static void buildTellsOneAnother() {
        of("promises 9, 10");
        // Three readers: cells 0 1 2; 3: 0 tells 1, 4: 0 tells 2, 5: 1 tells 0, 6: 1 tells 2, 7: 2 tells 0, 8: 2 tells 1.
        StrongCells x = built(4, 0, 1, 2, 3);
        int[][] path = {{0, 5, 7, 3, 4}, {1, 3, 8, 5, 6}, {2, 4, 6, 7, 8}};
        for (int i = 0; i < 3; i++) {
            x.begin(1 + i, 0);
            int[] went = new int[5];
            for (int k = 0; k < 5; k++) {
                went[k] = x.process(1 + i, 3);
                x.step(1 + i, 0);
                x.step(1 + i, 0);
            }
            due("cells of reader " + i, went, path[i]);
            due("ended", x.process(1 + i, 0), NONE);
        }
        x.clear();
        x.begin(0, 1);
        due("stamp", x.process(0, 5), 1);
        x.step(0, 0);
        x.step(0, 0);
        due("cells", cells(x), 101, 0, 0, 0, 0, 0, 0, 0, 0);
        x.begin(1, 0);
        for (int i = 0; i < 5; i++) x.step(1, 0);
        due("it keeps nothing new ahead of the last read's end", x.process(1, 5), 0);
        x.step(1, 0);
        due("it keeps the greatest", x.process(1, 5), 101);
        due("it has told nothing", x.act(1, 2), NONE);
        for (int i = 0; i < 4; i++) x.step(1, 0);
        due("it told", x.act(1, 2), 1);
        due("cells", cells(x), 101, 0, 0, 101, 101, 0, 0, 0, 0);
        whole(x, 3, 0);
        due("told by another reader", x.act(2, 2), 1);
        due("cells", cells(x), 101, 0, 0, 101, 101, 0, 0, 101, 101);

        // What it kept counts, though its cells tell less: reader 0's own cell is under way with what is new.
        x.build(4, 0, 1, 2, 1);
        x.begin(0, 1);
        x.step(0, 0);
        x.begin(1, 0);
        x.step(1, 0);
        due("one reader alone: one access", x.step(1, 1), 1);
        x.begin(1, 0);
        x.step(1, 0);
        x.step(1, 0);
        due("what it keeps", x.act(2, 2), 1);

        x.build(4, 1, 1, 2, 3);
        x.begin(0, 1);
        x.step(0, 0);
        x.begin(1, 0);
        x.step(1, 0);
        due("poor: its own cell alone", x.step(1, 1), 1);
        due("keeps", x.process(1, 5), 101);
        x.begin(1, 0);
        x.step(1, 0);
        x.step(1, 0);
        due("poor: what it keeps is told", x.act(2, 2), 1);
        due("poor: it writes nothing", cells(x), 0, 0, 0, 0, 0, 0, 0, 0, 0);
    }

    private static void buildTwoWriters() {
        of("promises 9, 10");
        StrongCells x = built(5, 0, 2, 4, 1);
        x.begin(0, 2);
        due("three accesses", toEnd(x, 0), 3);
        due("cells", cells(x), 102, 0);
        x.begin(1, 1);
        x.step(1, 0);
        x.step(1, 0);
        due("keeps the stamp as it writes", x.process(1, 5), 0);
        x.step(1, 0);
        due("a stamp above all", cells(x), 102, 211);
        due("keeps", x.process(1, 5), 2);
        x.begin(2, 0);
        due("two accesses", toEnd(x, 2), 2);
        due("the greater tag", x.act(2, 2), 1);
        whole(x, 0, 3);
        due("cells", cells(x), 303, 211);
        whole(x, 2, 0);
        due("the greater tag", x.act(4, 2), 3);
        due("told(14)", x.told(14), 3);
        due("atomic", x.told(10), 1);

        // Both look ahead of either's write: one stamp, and the writer's number decides.
        x.clear();
        x.begin(0, 2);
        x.begin(1, 1);
        for (int i = 0; i < 3; i++) {
            x.step(1, 0);
            x.step(0, 0);
        }
        due("cells", cells(x), 102, 111);
        whole(x, 2, 0);
        due("told", x.act(2, 2), 1);
        due("atomic", x.told(10), 1);

        x.build(5, 1, 2, 4, 1);
        x.begin(1, 1);
        due("poor: no stamp yet", process(x, 1), 0, 0, 0, 1, 1, 0);
        due("poor: one access", x.step(1, 0), 1);
        due("keeps", x.process(1, 5), 1);
        whole(x, 1, 2);
        whole(x, 0, 3);
        due("poor: stamps of its own", cells(x), 103, 212);
        whole(x, 2, 0);
        due("told", x.act(3, 2), 2);
        due("not atomic", x.told(10), 0);
    }

    private static void run() {
        of("promise 11");
        StrongCells x = built(0, 0, 1, 2, 2);
        due("run()", x.run(), NOT);
        due("nothing to undo", x.told(17), 0);
        x.begin(2, 0);
        x.begin(0, 1);
        x.begin(1, 0);
        x.step(2, 0);
        due("run()", x.run(), 5);
        // The writer went first, then reader 1, then 2, who took its first choice: what the cell held as it began.
        due("writer", act(x, 1), 0, 1, NONE, 1, 5, NONE, NONE);
        due("reader 1", act(x, 2), 1, NONE, 1, 2, 7, 1, 1);
        due("reader 2", act(x, 0), 2, NONE, 0, 0, 8, 1, 1);
        due("told(9)", x.told(9), 9);
        due("told(8)", x.told(8), 0);
        due("run()", x.run(), NOT);
        due("one deed", x.undo(1), 4);
        due("told(9)", x.told(9), 4);
        due("told(8)", x.told(8), 3);
        x = built(1, 0, 0, 2, 1);
        x.begin(0, 0);
        due("an act of no access", x.run(), 1);
    }

    private static void bad() {
        of("promise 12");
        StrongCells x = new StrongCells();
        due("bad()", x.bad(), NOT);
        x.begin(0, 1);
        x.begin(1, 0);
        due("none is bad", x.bad(), NOT);
        due("nothing to undo but these", x.told(17), 2);
        x.step(0, 0);
        x.step(1, 0);
        x.step(1, 1);
        x.begin(1, 0);
        due("ways", ways(x), 5, 2, 1, 3);
        // 0: write ends, then the read tells 1; 1: read begins, write ends, read tells 0.
        due("bad()", x.bad(), 3);
        due("not atomic", x.told(10), 0);
        due("the write", x.act(0, 4), 7);
        due("the read", act(x, 2), 1, NONE, 0, 5, 8, 1, 1);
        due("a deed", x.told(17), 7);
        due("the one of no steps", x.bad(), 0);
        due("a deed, too", x.told(17), 8);
        due("nothing is changed by it", x.told(9), 9);
        due("run()", x.run(), NOT);
        due("undo(2)", x.undo(2), 6);
        due("told(9)", x.told(9), 6);
        due("ways", ways(x), 5, 2, 1, 3);
    }

    private static void drift() {
        of("promise 13");
        StrongCells x = new StrongCells();
        for (int n : new int[] {0, -1, 21, FAR, FAR_BELOW}) due("drift(" + n + ")", x.drift(n), OUTSIDE);
        due("no draw", x.told(18), 0);
        // Seeds: 12345, draw 0; then of the value 1406932606, / 65536 is 21468: 0.
        due("drift(1)", x.drift(1), 1);
        due("a writer began, by two draws", x.told(18), 1406932606);
        due("act", act(x, 0), 0, 0, NONE, 0, NONE, NONE, NONE);
        // 654583775 / 65536 is 9988: process 0; a draw of its one choice: 1449466924; its write begins.
        due("drift(1)", x.drift(1), 2);
        due("told(18)", x.told(18), 1449466924);
        due("begun", x.process(0, 2), 1);
        due("two deeds", x.told(17), 2);
        // 229283573 / 65536 is 3498: process 0; 1109335178: its write ends.
        due("drift(1)", x.drift(1), 3);
        due("ended", x.act(0, 4), 2);
        // 1051550459 / 65536 is 16045: process 1: a read is begun, no draw of a value.
        due("drift(1)", x.drift(1), 4);
        due("told(18)", x.told(18), 1051550459);
        due("a read", act(x, 1), 1, NONE, NONE, 3, NONE, NONE, NONE);
        due("undo(4)", x.undo(4), 0);
        due("the seed stays", x.told(18), 1051550459);

        x = new StrongCells();
        due("drift(20)", x.drift(20) <= 20, true);
        due("drift(20)", x.drift(20) <= 40, true);
        for (int i = 0; i < 10; i++) x.drift(20);
        due("all ended", x.told(8), 0);
        due("history is full", x.told(7), 7);
        int time = x.told(9), undoable = x.told(17), seed = x.told(18);
        due("nothing is done", x.drift(20), time);
        due("so there is no deed", x.told(17), undoable);
        due("but draws", x.told(18) != seed, true);
    }

    private static void undo() {
        of("promise 14");
        StrongCells x = built(4, 0, 1, 3, 2);
        x.begin(0, 2);
        x.begin(1, 0);
        for (int i = 0; i < 3; i++) x.step(0, 0);
        due("undo(6)", x.undo(6), NOT);
        x.clear();
        for (int i = 0; i < 18; i++) move(x, i);
        due("16 are kept", x.told(17), 16);
        due("undo(1)", x.undo(1), 15);
        same("undo(1)", moved(x), moved(behindMoves(17)));
        due("undo(4)", x.undo(4), 11);
        same("undo(4)", moved(x), moved(behindMoves(13)));
        x.write(0, 9);
        x.seed(99);
        due("undo(11)", x.undo(11), 0);
        same("undo(11)", moved(x), moved(behindMoves(2)));
        due("the book stays", x.told(15), 1);
        due("the seed stays", x.told(18), 99);
        due("undo(1)", x.undo(1), NOT);
        x.run();
        due("run is one", x.undo(1), 0);
        same("run undone", moved(x), moved(behindMoves(2)));
    }

    /** Three begin, then fifteen steps of these; each is a deed. */
    private static void move(StrongCells x, int i) {
        if (i < 3) x.begin(i, 2);
        else due("a step", x.step(i < 15 ? i % 3 : i < 17 ? 1 : 2, 0) >= 0, true);
    }

    private static StrongCells behindMoves(int n) {
        StrongCells x = built(4, 0, 1, 3, 2);
        for (int i = 0; i < n; i++) move(x, i);
        return x;
    }

    private static void book() {
        of("promise 15");
        StrongCells x = new StrongCells();
        due("write(0, 0)", x.write(0, 0), UNKNOWN);
        whole(x, 0, 1);
        whole(x, 1, 0);
        x.begin(1, 0);
        for (int a : new int[] {-1, 3, FAR, FAR_BELOW}) due("write(" + a + ", 0)", x.write(a, 0), UNKNOWN);
        due("a writing told NONE", x.write(0, NONE), 1);
        due("a read told 1", x.write(1, 1), 2);
        due("one that has not ended: NONE", x.write(2, NONE), 3);
        due("WRONG", x.told(16), NONE);
        due("any", x.write(1, FAR_BELOW), 4);
        due("WRONG", x.told(16), 3);
        toEnd(x, 1);
        due("it has ended now", x.told(16), 2);
        due("writing is no deed", x.told(17), 9);
        x.undo(3);
        due("act 2 is gone, and wrong, though it had told nothing", x.told(16), 2);
        x.undo(2);
        due("act 1 has not ended", x.told(16), 1);
        x.clear();
        due("act 0 is gone", x.told(16), 0);
        due("told(15)", x.told(15), 4);
        StrongCells y = new StrongCells();
        whole(y, 1, 0);
        y.write(0, 0);
        due("told 0", y.told(16), NONE);
        y.undo(3);
        due("gone", y.told(16), 0);
        y.begin(1, 0);
        due("there again, not ended", y.told(16), 0);
        toEnd(y, 1);
        due("told 0 again", y.told(16), NONE);

        of("promise 16");
        due("tear()", x.tear(), 4);
        due("told(15)", x.told(15), 0);
        due("told(16)", x.told(16), NONE);
        due("tear()", x.tear(), 0);
        due("write(0, 0)", x.write(0, 0), UNKNOWN);

        of("promise 15");
        x.begin(0, 1);
        for (int i = 1; i <= 20; i++) due("write(0, 7)", x.write(0, i == 20 ? 7 : NONE), i);
        due("FULL", x.write(0, 7), FULL);
        due("UNKNOWN ahead of FULL", x.write(1, 7), UNKNOWN);
        due("told(15)", x.told(15), 20);
        due("the last one is wrong", x.told(16), 19);
        of("promise 16");
        due("tear()", x.tear(), 20);
        due("write(0, NONE)", x.write(0, NONE), 1);
        due("WRONG", x.told(16), NONE);
    }

    private static void seed() {
        of("promise 17");
        StrongCells x = new StrongCells();
        due("seed(5)", x.seed(5), 0);
        due("seed(-1)", x.seed(-1), OUTSIDE);
        due("seed(least)", x.seed(FAR_BELOW), OUTSIDE);
        due("told(18)", x.told(18), 5);
        due("seed(2147483647)", x.seed(2147483647), 5);
        due("seed(0)", x.seed(0), 2147483647);
        due("seed(0)", x.seed(0), 0);
        x.seed(2147483647);
        // 2147483647 * 1103515245 + 12345, left over by 2 to the 31, is 1043980748; / 65536 is 15929: process 1.
        due("drift(1)", x.drift(1), 1);
        due("told(18)", x.told(18), 1043980748);
        due("a reader", x.process(1, 0), 0);
        due("not a deed", x.told(17), 1);
    }

    private static void images() {
        of("promise 18");
        StrongCells x = built(3, 0, 1, 4, 1);
        for (int i : new int[] {-1, 2, FAR, FAR_BELOW}) due("keep(" + i + ")", x.keep(i), UNKNOWN);
        x.begin(0, 3);
        x.step(0, 0);
        x.begin(1, 0);
        x.step(1, 0);
        x.seed(8);
        x.write(0, 4);
        String was = moved(x);
        due("keep(0)", x.keep(0), 1);
        due("nothing can be undone", x.told(17), 0);
        due("undo(1)", x.undo(1), NOT);
        same("keep changes nothing else", moved(x), was);

        of("promise 19");
        for (int i : new int[] {-1, 2, FAR, FAR_BELOW}) due("goBack(" + i + ")", x.goBack(i), UNKNOWN);
        due("goBack(1)", x.goBack(1), NOT);
        x.step(1, 1);
        x.seed(9);
        x.tear();
        due("goBack(0)", x.goBack(0), 1);
        same("goBack", moved(x), was);
        due("the seed is of the image", x.told(18), 8);
        due("the book is not", x.told(15), 0);
        due("nothing can be undone", x.told(17), 0);
        due("the choices are there again", x.process(1, 4), 2);
        x.step(1, 1);
        due("told", x.act(1, 2), 3);
        due("a deed behind it", x.undo(1), 0);
        x.build(5, 0, 2, 4, 3);
        whole(x, 1, 1);
        String other = moved(x);
        due("keep(1)", x.keep(1), 1);
        due("goBack(0)", x.goBack(0), 1);
        same("goBack, as it was built", moved(x), was);
        x.run();
        due("goBack(0)", x.goBack(0), 1);
        same("an image stays", moved(x), was);
        due("goBack(1)", x.goBack(1), 1);
        same("goBack", moved(x), other);
        x.clear();
        due("keep(1)", x.keep(1), 1);
        whole(x, 0, 1);
        due("goBack(1)", x.goBack(1), 1);
        due("the later image", x.told(7), 0);
    }
}
