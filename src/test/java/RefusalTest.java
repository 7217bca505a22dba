import java.util.Arrays;
import java.util.function.ToIntFunction;

/** Each refusal that the document names: just inside of the bound, just outside of it, far outside, and which comes first. */
public final class RefusalTest extends Checks {
    public static void main(String[] args) {
        toldOutside();
        waysOutside();
        cellUnknown();
        processUnknown();
        processOutside();
        actUnknown();
        actOutside();
        buildOutside();
        buildNot();
        beginUnknown();
        beginOutside();
        beginOfAReader();
        beginNot();
        beginFull();
        stepUnknown();
        stepNot();
        stepOutside();
        runNot();
        badNot();
        driftOutside();
        undoOutside();
        undoNot();
        writeUnknown();
        writeFull();
        seedOutside();
        keepUnknown();
        goBackUnknown();
        goBackNot();
        unknownIsFirst();
        outsideIsNext();
        notIsAheadOfFull();
        changesNothing();
        end("all is refused as told");
    }

    // ---- what is so

    private static void toldOutside() {
        of("told: OUTSIDE");
        StrongCells x = new StrongCells();
        due("told(0)", x.told(0), 0);
        due("told(18)", x.told(18), 0);
        for (int what : new int[] {-1, 19, FAR, FAR_BELOW}) due("told(" + what + ")", x.told(what), OUTSIDE);
    }

    private static void waysOutside() {
        of("ways: OUTSIDE");
        StrongCells x = new StrongCells();
        x.begin(0, 1);
        due("ways(0)", x.ways(0), 1);
        due("ways(3)", x.ways(3), 2);
        for (int what : new int[] {-1, 4, FAR, FAR_BELOW}) due("ways(" + what + ")", x.ways(what), OUTSIDE);
    }

    private static void cellUnknown() {
        of("cell: UNKNOWN");
        int[][] builtAndCells = {{0, 0, 0, 2, 1, 1}, {0, 1, 2, 4, 3, 1}, {1, 0, 0, 2, 3, 1}, {2, 0, 0, 2, 1, 2}, {2, 1, 1, 3, 3, 3},
            {2, 0, 2, 4, 2, 4}, {3, 0, 1, 4, 1, 1}, {4, 0, 1, 2, 1, 1}, {4, 1, 1, 4, 2, 4}, {4, 0, 1, 3, 3, 9}, {5, 0, 2, 2, 1, 2}, {5, 1, 2, 4, 3, 2}};
        for (int[] b : builtAndCells) {
            StrongCells x = built(b[0], b[1], b[2], b[3], b[4]);
            String by = " by " + Arrays.toString(b);
            due("told(6)" + by, x.told(6), b[5]);
            due("the last cell" + by, x.cell(b[5] - 1), 0);
            for (int c : new int[] {-1, b[5], FAR, FAR_BELOW}) due("cell(" + c + ")" + by, x.cell(c), UNKNOWN);
        }
    }

    private static void processUnknown() {
        of("process: UNKNOWN");
        int[][] builtAndProcesses = {{0, 0, 0, 2, 1, 2}, {1, 0, 0, 2, 2, 3}, {2, 0, 0, 2, 3, 4}, {3, 0, 1, 2, 1, 2}, {4, 0, 1, 2, 3, 4},
            {5, 0, 2, 2, 1, 3}, {5, 0, 2, 2, 3, 5}};
        for (int[] b : builtAndProcesses) {
            StrongCells x = built(b[0], b[1], b[2], b[3], b[4]);
            String by = " by " + Arrays.toString(b);
            due("told(5)" + by, x.told(5), b[5]);
            due("the last process" + by, x.process(b[5] - 1, 0), NONE);
            for (int p : new int[] {-1, b[5], FAR, FAR_BELOW}) due("process(" + p + ", 0)" + by, x.process(p, 0), UNKNOWN);
        }
    }

    private static void processOutside() {
        of("process: OUTSIDE");
        StrongCells x = new StrongCells();
        due("process(0, 0)", x.process(0, 0), NONE);
        due("process(0, 5)", x.process(0, 5), 0);
        for (int what : new int[] {-1, 6, FAR, FAR_BELOW}) due("process(0, " + what + ")", x.process(0, what), OUTSIDE);
    }

    private static void actUnknown() {
        of("act: UNKNOWN");
        StrongCells x = built(0, 0, 2, 2, 1);
        due("no act yet", x.act(0, 0), UNKNOWN);
        for (int a = 0; a < 7; a++) {
            whole(x, 1, 0);
            due("act(" + a + ", 0)", x.act(a, 0), 1);
            for (int none : new int[] {-1, a + 1, FAR, FAR_BELOW}) due("act(" + none + ", 0)", x.act(none, 0), UNKNOWN);
        }
        x.undo(1);
        due("not ended any more", x.act(6, 4), NONE);
        x.undo(1);
        due("undone", x.act(6, 0), UNKNOWN);
        x.clear();
        due("cleared", x.act(0, 0), UNKNOWN);
    }

    private static void actOutside() {
        of("act: OUTSIDE");
        StrongCells x = new StrongCells();
        x.begin(0, 1);
        due("act(0, 0)", x.act(0, 0), 0);
        due("act(0, 6)", x.act(0, 6), NONE);
        for (int what : new int[] {-1, 7, FAR, FAR_BELOW}) due("act(0, " + what + ")", x.act(0, what), OUTSIDE);
    }

    // ---- deeds

    private static int build(int[] b) {
        StrongCells x = new StrongCells();
        return x.build(b[0], b[1], b[2], b[3], b[4]);
    }

    private static void buildOutside() {
        of("build: OUTSIDE");
        int[][] good = {{0, 0, 0, 2, 1}, {5, 0, 2, 2, 1}, {0, 1, 0, 2, 1}, {0, 0, 2, 2, 1}, {0, 0, 0, 4, 1}, {0, 0, 0, 2, 3}};
        for (int[] b : good) due("build" + Arrays.toString(b), build(b), b[4] + (b[0] == 5 ? 2 : 1));
        int[][] outside = {{-1, 0, 0, 2, 1}, {6, 0, 2, 2, 1}, {0, -1, 0, 2, 1}, {0, 2, 0, 2, 1}, {0, 0, -1, 2, 1}, {0, 0, 3, 2, 1},
            {0, 0, 0, 1, 1}, {0, 0, 0, 5, 1}, {0, 0, 0, 2, 0}, {0, 0, 0, 2, 4}};
        for (int[] b : outside) due("build" + Arrays.toString(b), build(b), OUTSIDE);
        for (int i = 0; i < 5; i++) {
            for (int far : new int[] {FAR, FAR_BELOW}) {
                int[] b = {0, 0, 0, 2, 1};
                b[i] = far;
                due("build" + Arrays.toString(b), build(b), OUTSIDE);
            }
        }
    }

    private static void buildNot() {
        for (int i = 0; i < 324; i++) {
            int build = i % 6, poor = i / 6 % 2, base = i / 12 % 3, r = 2 + i / 36 % 3, readers = 1 + i / 108;
            int[] b = {build, poor, base, r, readers};
            boolean not = false;
            switch (build) {
                case 1:
                    of("build: NOT: BUILD 1 with R above 2");
                    not = r > 2;
                    break;
                case 3:
                    of("build: NOT: 3 with more READERS than one, or another BASE than 1");
                    not = readers > 1 || base != 1;
                    break;
                case 4:
                    of("build: NOT: BUILD 4 with another BASE than 1");
                    not = base != 1;
                    break;
                case 5:
                    of("build: NOT: 5 with another than 2");
                    not = base != 2;
                    break;
                default:
                    of("build: NOT: none of BUILDS 0, 2");
            }
            due("build" + Arrays.toString(b), build(b), not ? NOT : readers + (build == 5 ? 2 : 1));
        }
    }

    private static void beginUnknown() {
        of("begin: UNKNOWN");
        StrongCells x = new StrongCells();
        for (int p : new int[] {-1, 2, FAR, FAR_BELOW}) due("begin(" + p + ", 0)", x.begin(p, 0), UNKNOWN);
        due("the last process", x.begin(1, 0), 0);
        x = built(5, 0, 2, 2, 3);
        due("begin(5, 0)", x.begin(5, 0), UNKNOWN);
        due("the last process", x.begin(4, 0), 0);
    }

    private static void beginOutside() {
        of("begin: OUTSIDE (a WRITER's VALUE)");
        for (int r = 2; r <= 4; r++) {
            StrongCells x = built(0, 0, 0, r, 1);
            for (int v : new int[] {-1, r, FAR, FAR_BELOW}) due("begin(0, " + v + ") by R " + r, x.begin(0, v), OUTSIDE);
            due("the greatest by R " + r, x.begin(0, r - 1), 0);
            due("it writes", x.act(0, 1), r - 1);
            x.clear();
            due("the least by R " + r, x.begin(0, 0), 0);
            x.build(5, 0, 2, r, 1);
            for (int w = 0; w < 2; w++) {
                for (int v : new int[] {-1, r, FAR, FAR_BELOW}) due("begin(" + w + ", " + v + ") by R " + r, x.begin(w, v), OUTSIDE);
                due("the greatest by R " + r, x.begin(w, r - 1), w);
            }
        }
    }

    private static void beginOfAReader() {
        of("begin: of a READER v has no say");
        for (int build = 0; build <= 5; build++) {
            int base = build == 5 ? 2 : 1, reader = build == 5 ? 2 : 1;
            for (int v : new int[] {-1, 2, FAR, FAR_BELOW, UNKNOWN}) {
                StrongCells x = built(build, 0, base, 2, 1);
                due("begin(" + reader + ", " + v + ") by BUILD " + build, x.begin(reader, v), 0);
                due("it writes nothing", x.act(0, 1), NONE);
            }
        }
    }

    private static void beginNot() {
        of("begin: NOT: one is UNDER WAY");
        StrongCells x = built(0, 0, 0, 2, 2);
        for (int p = 0; p < 3; p++) {
            due("begin", x.begin(p, 1), p);
            due("begun", x.begin(p, 1), NOT);
            x.step(p, 0);
            due("one step later", x.begin(p, 1), NOT);
        }
        for (int p = 0; p < 3; p++) {
            due("ended", x.step(p, 0), 1);
            due("begin", x.begin(p, 1), 3 + p);
        }
    }

    private static void beginFull() {
        of("begin: FULL (7)");
        StrongCells x = built(0, 0, 2, 2, 1);
        for (int a = 0; a < 6; a++) whole(x, a % 2, 0);
        due("the seventh", x.begin(0, 1), 6);
        due("an eighth", x.begin(1, 0), FULL);
        toEnd(x, 0);
        for (int p = 0; p < 2; p++) due("all ended: an eighth of " + p, x.begin(p, 0), FULL);
        due("told(7)", x.told(7), 7);
        x.undo(2);
        due("the seventh again", x.begin(1, 0), 6);
        x.clear();
        due("the first again", x.begin(1, 0), 0);
    }

    private static void stepUnknown() {
        of("step: UNKNOWN");
        StrongCells x = built(5, 0, 2, 2, 3);
        for (int p = 0; p < 5; p++) x.begin(p, 0);
        for (int p : new int[] {-1, 5, FAR, FAR_BELOW}) due("step(" + p + ", 0)", x.step(p, 0), UNKNOWN);
        due("the last process", x.step(4, 0), 0);
    }

    private static void stepNot() {
        of("step: NOT: none is UNDER WAY");
        StrongCells x = new StrongCells();
        for (int p = 0; p < 2; p++) {
            due("none yet", x.step(p, 0), NOT);
            x.begin(p, 0);
            x.step(p, 0);
            due("the last one", x.step(p, 0), 1);
            due("ended", x.step(p, 0), NOT);
        }
    }

    private static void choicesAre(StrongCells x, int p, int n) {
        due("choices of " + p, x.process(p, 4), n);
        for (int c : new int[] {-1, n, FAR, FAR_BELOW}) due("step(" + p + ", " + c + ")", x.step(p, c), OUTSIDE);
    }

    private static void stepOutside() {
        of("step: OUTSIDE (CHOICE)");
        for (int r = 2; r <= 4; r++) {
            StrongCells x = built(0, 0, 0, r, 1);
            x.begin(0, 1);
            choicesAre(x, 0, 1);
            x.step(0, 0);
            choicesAre(x, 0, 1);
            x.begin(1, 0);
            choicesAre(x, 1, 1);
            x.step(1, 0);
            choicesAre(x, 1, r);
            due("the greatest one", x.step(1, r - 1), 1);
        }
        StrongCells x = built(1, 0, 1, 2, 1);
        x.begin(0, 0);
        choicesAre(x, 0, 1);
        x.begin(1, 0);
        x.step(1, 0);
        choicesAre(x, 1, 1);
        x.step(1, 0);
        x.step(0, 0);
        x.begin(0, 1);
        x.step(0, 0);
        x.begin(1, 0);
        x.step(1, 0);
        choicesAre(x, 1, 2);
        due("the greatest one", x.step(1, 1), 1);
        x = built(5, 0, 2, 4, 1);
        for (int p = 0; p < 3; p++) {
            x.begin(p, 3);
            choicesAre(x, p, 1);
            x.step(p, 0);
            choicesAre(x, p, 1);
        }
    }

    private static void runNot() {
        of("run: NOT: no ACT is UNDER WAY");
        StrongCells x = new StrongCells();
        due("no act", x.run(), NOT);
        x.begin(1, 0);
        due("one", x.run(), 2);
        due("ended", x.run(), NOT);
    }

    private static void badNot() {
        of("bad: NOT: there is none");
        StrongCells x = new StrongCells();
        due("no act", x.bad(), NOT);
        x.begin(0, 1);
        x.begin(1, 0);
        due("ways, none is bad", ways(x), 10, 0, NONE, 4);
        due("none is bad", x.bad(), NOT);
        x.run();
        due("none is under way, and the history is good", x.bad(), NOT);
    }

    private static void driftOutside() {
        of("drift: 1 .. 20: OUTSIDE");
        StrongCells x = built(4, 0, 1, 2, 3);
        for (int n : new int[] {0, 21, -1, FAR, FAR_BELOW}) due("drift(" + n + ")", x.drift(n), OUTSIDE);
        due("drift(1)", x.drift(1), 1);
        due("drift(20)", x.drift(20), 21);
    }

    private static void undoOutside() {
        of("undo: 1 .. 16: OUTSIDE");
        StrongCells x = built(4, 0, 1, 2, 3);
        x.drift(20);
        for (int n : new int[] {0, 17, -1, FAR, FAR_BELOW}) due("undo(" + n + ")", x.undo(n), OUTSIDE);
        due("undo(16)", x.undo(16), 0);
        x.drift(1);
        due("undo(1)", x.undo(1), 0);
    }

    private static void undoNot() {
        of("undo: NOT: not so many");
        StrongCells x = built(4, 0, 1, 2, 3);
        for (int kept = 0; kept < 16; kept++) {
            due("one more than there are", x.undo(kept + 1), NOT);
            due("16", x.undo(16), NOT);
            x.drift(1);
        }
        due("all", x.undo(16), 0);
        due("told(9)", x.told(9), 0);
        due("none", x.undo(1), NOT);
    }

    // ---- the book, images

    private static void writeUnknown() {
        of("write: UNKNOWN");
        StrongCells x = new StrongCells();
        due("no act", x.write(0, 0), UNKNOWN);
        for (int a = 0; a < 7; a++) {
            whole(x, 1, 0);
            for (int none : new int[] {-1, a + 1, FAR, FAR_BELOW}) due("write(" + none + ", 0)", x.write(none, 0), UNKNOWN);
            due("the last act", x.write(a, 0), a + 1);
        }
        x.clear();
        due("no act any more", x.write(0, 0), UNKNOWN);
    }

    private static void writeFull() {
        of("write: FULL (20)");
        StrongCells x = new StrongCells();
        x.begin(0, 1);
        for (int i = 1; i <= 20; i++) due("entry", x.write(0, FAR_BELOW + i), i);
        for (int v : new int[] {NONE, 0, FAR}) due("one more", x.write(0, v), FULL);
        due("told(15)", x.told(15), 20);
        x.clear();
        x.begin(0, 1);
        due("the book stays", x.write(0, 0), FULL);
        due("tear()", x.tear(), 20);
        due("room again", x.write(0, 0), 1);
    }

    private static void seedOutside() {
        of("seed: 0 .. 2147483647: OUTSIDE");
        StrongCells x = new StrongCells();
        for (int v : new int[] {-1, -2, NOT, FAR_BELOW}) due("seed(" + v + ")", x.seed(v), OUTSIDE);
        due("told(18)", x.told(18), 0);
        due("seed(2147483647)", x.seed(2147483647), 0);
        due("told(18)", x.told(18), 2147483647);
        due("seed(-1)", x.seed(-1), OUTSIDE);
        due("seed(0)", x.seed(0), 2147483647);
        due("told(18)", x.told(18), 0);
    }

    private static void keepUnknown() {
        of("keep: UNKNOWN");
        StrongCells x = new StrongCells();
        for (int i : new int[] {-1, 2, FAR, FAR_BELOW}) due("keep(" + i + ")", x.keep(i), UNKNOWN);
        for (int i = 0; i < 2; i++) due("goBack(" + i + "): none was kept", x.goBack(i), NOT);
        for (int i = 0; i < 2; i++) due("keep(" + i + ")", x.keep(i), 1);
    }

    private static void goBackUnknown() {
        of("goBack: UNKNOWN");
        StrongCells x = new StrongCells();
        x.keep(0);
        x.keep(1);
        for (int i : new int[] {-1, 2, FAR, FAR_BELOW}) due("goBack(" + i + ")", x.goBack(i), UNKNOWN);
        for (int i = 0; i < 2; i++) due("goBack(" + i + ")", x.goBack(i), 1);
    }

    private static void goBackNot() {
        of("goBack: NOT: it was not kept");
        for (int kept = 0; kept < 2; kept++) {
            StrongCells x = new StrongCells();
            for (int i = 0; i < 2; i++) due("goBack(" + i + ")", x.goBack(i), NOT);
            x.keep(kept);
            due("the other one", x.goBack(1 - kept), NOT);
            due("it", x.goBack(kept), 1);
            due("the other one", x.goBack(1 - kept), NOT);
            x.clear();
            x.build(4, 0, 1, 2, 2);
            due("images stay", x.goBack(kept), 1);
        }
    }

    // ---- of several the first in this order

    /** Seven acts, of which those of processes 0 and 1 are under way; twenty entries. */
    private static StrongCells fullOne() {
        StrongCells x = built(0, 0, 1, 3, 2);
        for (int a = 0; a < 5; a++) whole(x, a % 2, 1);
        x.begin(0, 2);
        x.begin(1, 0);
        for (int i = 0; i < 20; i++) x.write(i % 7, 1);
        return x;
    }

    private static void unknownIsFirst() {
        of("REFUSALS: UNKNOWN ahead of OUTSIDE, NOT, FULL");
        StrongCells x = new StrongCells();
        due("process(2, 6)", x.process(2, 6), UNKNOWN);
        due("process(-1, -1)", x.process(-1, -1), UNKNOWN);
        due("act(0, 7)", x.act(0, 7), UNKNOWN);
        due("act(-1, -1)", x.act(-1, -1), UNKNOWN);
        due("step(2, 1)", x.step(2, 1), UNKNOWN);
        due("begin(-1, 2)", x.begin(-1, 2), UNKNOWN);
        due("goBack(2)", x.goBack(2), UNKNOWN);
        x = fullOne();
        due("begin(3, 3)", x.begin(3, 3), UNKNOWN);
        due("begin(3, 0)", x.begin(3, 0), UNKNOWN);
        due("step(3, 9)", x.step(3, 9), UNKNOWN);
        due("write(7, 1)", x.write(7, 1), UNKNOWN);
        due("write(-1, 1)", x.write(-1, 1), UNKNOWN);
    }

    private static void outsideIsNext() {
        of("REFUSALS: OUTSIDE ahead of NOT, FULL; of step() behind NOT");
        int[][] outsideToo = {{1, 0, 0, 3, 4}, {1, 2, 0, 3, 1}, {1, 0, 0, 5, 1}, {3, 0, 1, 2, 4}, {3, 0, 3, 2, 1}, {4, -1, 0, 2, 1}, {5, 0, -1, 2, 1},
            {5, 0, 0, 1, 1}, {5, 0, 0, 2, 0}};
        for (int[] b : outsideToo) due("build" + Arrays.toString(b), build(b), OUTSIDE);
        StrongCells x = fullOne();
        due("begin(0, 3): one is under way, and there is no room", x.begin(0, 3), OUTSIDE);
        toEnd(x, 0);
        due("begin(0, 3): there is no room", x.begin(0, 3), OUTSIDE);
        due("step(0, 1): none is under way", x.step(0, 1), NOT);
        due("step(2, -1): none is under way", x.step(2, -1), NOT);
        due("undo(17): nor are there so many", x.undo(17), OUTSIDE);
    }

    private static void notIsAheadOfFull() {
        of("REFUSALS: NOT ahead of FULL");
        StrongCells x = fullOne();
        due("begin(0, 0)", x.begin(0, 0), NOT);
        due("begin(1, 0)", x.begin(1, 0), NOT);
        due("begin(2, 0)", x.begin(2, 0), FULL);
    }

    // ---- what is refused changes nothing

    /** What is so, and what it leads to: draws, undoing, images. */
    private static String andFurther(StrongCells x) {
        StringBuilder s = new StringBuilder(all(x));
        s.append(x.drift(3)).append(' ').append(x.undo(x.told(17)));
        s.append(all(x)).append(x.goBack(1)).append(x.goBack(0));
        return s.append(all(x)).toString();
    }

    private static void refuses(int want, String call, ToIntFunction<StrongCells> made) {
        StrongCells x = inTheMidst(), other = inTheMidst();
        due(call, made.applyAsInt(x), want);
        same(call, andFurther(x), andFurther(other));
    }

    private static StrongCells inTheMidst() {
        StrongCells x = fullOne();
        x.seed(4321);
        x.keep(0);
        x.step(0, 0);
        x.step(1, 0);
        return x;
    }

    private static void refusesAtFirst(int want, String call, ToIntFunction<StrongCells> made) {
        StrongCells x = new StrongCells(), other = new StrongCells();
        due(call, made.applyAsInt(x), want);
        same(call, andFurther(x), andFurther(other));
    }

    private static void changesNothing() {
        of("What is refused changes nothing");
        refuses(OUTSIDE, "told(19)", x -> x.told(19));
        refuses(UNKNOWN, "cell(1)", x -> x.cell(1));
        refuses(UNKNOWN, "process(3, 0)", x -> x.process(3, 0));
        refuses(OUTSIDE, "process(0, 6)", x -> x.process(0, 6));
        refuses(UNKNOWN, "act(7, 0)", x -> x.act(7, 0));
        refuses(OUTSIDE, "act(0, 7)", x -> x.act(0, 7));
        refuses(OUTSIDE, "ways(4)", x -> x.ways(4));
        refuses(OUTSIDE, "build(6, 0, 0, 2, 1)", x -> x.build(6, 0, 0, 2, 1));
        refuses(OUTSIDE, "build(0, 0, 0, 2, 4)", x -> x.build(0, 0, 0, 2, 4));
        refuses(NOT, "build(1, 0, 0, 3, 1)", x -> x.build(1, 0, 0, 3, 1));
        refuses(NOT, "build(3, 0, 1, 2, 2)", x -> x.build(3, 0, 1, 2, 2));
        refuses(NOT, "build(4, 0, 0, 2, 1)", x -> x.build(4, 0, 0, 2, 1));
        refuses(NOT, "build(5, 0, 1, 2, 1)", x -> x.build(5, 0, 1, 2, 1));
        refuses(UNKNOWN, "begin(3, 0)", x -> x.begin(3, 0));
        refuses(OUTSIDE, "begin(0, 3)", x -> x.begin(0, 3));
        refuses(NOT, "begin(0, 0)", x -> x.begin(0, 0));
        refuses(FULL, "begin(2, 0)", x -> x.begin(2, 0));
        refuses(UNKNOWN, "step(3, 0)", x -> x.step(3, 0));
        refuses(NOT, "step(2, 0)", x -> x.step(2, 0));
        refuses(OUTSIDE, "step(0, 1)", x -> x.step(0, 1));
        refuses(OUTSIDE, "step(1, 2)", x -> x.step(1, 2));
        refuses(NOT, "bad()", x -> x.bad());
        refuses(OUTSIDE, "drift(0)", x -> x.drift(0));
        refuses(OUTSIDE, "drift(21)", x -> x.drift(21));
        refuses(OUTSIDE, "undo(0)", x -> x.undo(0));
        refuses(OUTSIDE, "undo(17)", x -> x.undo(17));
        refuses(NOT, "undo(3)", x -> x.undo(3));
        refuses(UNKNOWN, "write(7, 0)", x -> x.write(7, 0));
        refuses(FULL, "write(0, 0)", x -> x.write(0, 0));
        refuses(OUTSIDE, "seed(-1)", x -> x.seed(-1));
        refuses(UNKNOWN, "keep(2)", x -> x.keep(2));
        refuses(UNKNOWN, "goBack(2)", x -> x.goBack(2));
        refuses(NOT, "goBack(1)", x -> x.goBack(1));
        refusesAtFirst(UNKNOWN, "act(0, 0)", x -> x.act(0, 0));
        refusesAtFirst(NOT, "run()", x -> x.run());
        refusesAtFirst(NOT, "bad()", x -> x.bad());
        refusesAtFirst(NOT, "undo(1)", x -> x.undo(1));
        refusesAtFirst(UNKNOWN, "write(0, 0)", x -> x.write(0, 0));
        refusesAtFirst(UNKNOWN, "keep(-1)", x -> x.keep(-1));
        refusesAtFirst(NOT, "goBack(0)", x -> x.goBack(0));
    }
}
