import java.util.Arrays;

/** Each sentence of the document that names an edge other than a refusal, by a test of its own; worked out by hand. */
public final class BoundaryTest extends Checks {
    public static void main(String[] args) {
        terms();
        builds();
        history();
        judged();
        allWays();
        bookDrawsDeedsImages();
        end("all edges are as told");
    }

    private static void terms() {
        numbersFrom0();
        atFirst();
        valuesUpToRLess1();
        oneWriterOrTwo();
        eventsByBase();
        cellsAtFirst();
        theWriteThatEndedLast();
        whatOverlaps();
        anotherCell();
        anythingByBase0();
        bitsByBase0();
        oldThenNewByBase1();
        eachNumberOnce();
        underWayAsItBegins();
        justOneChoice();
        sevenChoices();
    }

    private static void builds() {
        sameValueNoAccess();
        keptFromTheBeginning();
        rowLeastAndGreatest();
        noneGot1();
        poorRowInOrder();
        stampsFrom0();
        noOlderStamp();
        oneReaderTellsNone();
        nineCells();
        asTheLastReadEnds();
        greatestOfWhatItKeeps();
        greaterTag();
        keptAsItWrites();
    }

    private static void history() {
        sevenActs();
        timeAheadOfThis();
        endsByItsFirstStep();
        processWithoutAct();
    }

    private static void judged() {
        lastIsTheLatest();
        lastIs0();
        startedAheadOfItsEnd();
        readsThatEndedAlone();
        twoWriters();
        backToTheBeginning();
        notLessIsNotBack();
        notAheadIsNotBack();
        mayHaveToldSeveral();
        notRegularNeither();
        firstOfSeveral();
        atomicOfNone();
        someThatHaveNotEnded();
        rowKeepsAhead();
        noStampsWithoutTags();
    }

    private static void allWays() {
        noneUnderWay();
        first500();
        badOfTheFirst500();
        longestOfTheFirst500();
        wayOfNoAccess();
        orderOfWays();
        badOfNoSteps();
        badBehindTheFirst500();
    }

    private static void bookDrawsDeedsImages() {
        wrongOfNone();
        wrongThatIsNoMore();
        notEndedOrAWriting();
        tearOfAnEmptyBook();
        seedAtFirst();
        leftOverBy2ToThe31();
        drawOfChoices();
        driftOnceAndTwenty();
        driftWithNoRoom();
        sixteenAreKept();
        deedsAreOne();
        deedsSince();
        seedAndBookStay();
        imagesKeepAllButTheBook();
        imageOfWhatIsNew();
    }

    /** A read, all at once but for its choice. */
    private static void read(StrongCells x, int p, int choice) {
        x.begin(p, 0);
        x.step(p, 0);
        x.step(p, choice);
    }

    private static void steps(StrongCells x, int... processes) {
        for (int p : processes) x.step(p, 0);
    }

    // ---- terms: cells and accesses

    private static void numbersFrom0() {
        of("What has a number has it from 0 on");
        StrongCells x = new StrongCells();
        due("process 0", x.begin(0, 0), 0);
        due("cell 0", x.process(0, 3), 0);
        due("the next act", x.begin(1, 0), 1);
        due("a wrong entry, the first of one", x.write(0, 7), 1);
        due("its number", x.told(16), 0);
        due("image 0", x.keep(0), 1);
        due("choice 0", x.step(0, 0), 0);
    }

    private static void atFirst() {
        of("At first: BUILD 0, not POOR, BASE 0, R 2, one READER");
        StrongCells x = new StrongCells();
        due("told", told(x), 0, 0, 0, 2, 1, 2, 1, 0, 0, 0, 1, NONE, NONE, NONE, 0, 0, NONE, 0, 0);
        due("begin(0, 1)", x.begin(0, 1), 0);
        steps(x, 0);
        x.begin(1, 0);
        steps(x, 1);
        due("base 0 over R 2", x.process(1, 4), 2);
    }

    private static void valuesUpToRLess1() {
        of("VALUES are 0 .. R less 1");
        for (int r = 2; r <= 4; r++) {
            for (int v = 0; v < r; v++) {
                StrongCells x = built(0, 0, 2, r, 1);
                due("writes " + v, x.begin(0, v), 0);
                toEnd(x, 0);
                whole(x, 1, 0);
                due("reads " + v, x.act(1, 2), v);
            }
            due("no more", built(0, 0, 2, r, 1).begin(0, r), OUTSIDE);
        }
    }

    private static void oneWriterOrTwo() {
        of("one WRITER, 0 (by BUILD 5 two, 0 and 1), then the READERS");
        for (int build = 0; build <= 5; build++) {
            int readers = build == 3 ? 1 : 3, writers = build == 5 ? 2 : 1;
            StrongCells x = built(build, 0, build == 5 ? 2 : 1, 2, readers);
            due("processes by " + build, x.told(5), writers + readers);
            for (int p = 0; p < writers + readers; p++) {
                x.begin(p, 1);
                due("process " + p + " by " + build, x.act(p, 1), p < writers ? 1 : NONE);
            }
        }
    }

    private static void eventsByBase() {
        of("By BASE 0, 1 it takes two EVENTS; by BASE 2 one, in which it does both");
        for (int base = 0; base <= 2; base++) {
            for (int p = 0; p < 2; p++) {
                StrongCells x = built(0, 0, base, 2, 1);
                x.begin(p, 1);
                due("not begun", x.process(p, 2), 0);
                due("the first event", x.step(p, 0), base == 2 ? 1 : 0);
                due("begun", x.process(p, 2), base == 2 ? 0 : 1);
                due("the second one", x.step(p, 0), base == 2 ? NOT : 1);
                due("ended", x.process(p, 2), 0);
            }
        }
    }

    private static void cellsAtFirst() {
        of("CELLS hold 0 at first; BUILD 2: CELL 0 holds 1 at first");
        for (int build = 0; build <= 5; build++) {
            StrongCells x = built(build, 0, build == 5 ? 2 : 1, 2, 1);
            for (int c = 0; c < x.told(6); c++) due("cell " + c + " by " + build, x.cell(c), build == 2 && c == 0 ? 1 : 0);
            whole(x, 0, 1);
            x.clear();
            for (int c = 0; c < x.told(6); c++) due("cell " + c + " by " + build + ", cleared", x.cell(c), build == 2 && c == 0 ? 1 : 0);
        }
        StrongCells x = built(2, 0, 2, 3, 1);
        whole(x, 1, 0);
        due("read at first by 2", x.act(0, 2), 0);
    }

    private static void theWriteThatEndedLast() {
        of("A CELL holds what was told by the WRITE to it that ENDED last");
        StrongCells x = built(0, 0, 0, 4, 1);
        x.begin(0, 3);
        due("begun act", x.cell(0), 0);
        steps(x, 0);
        due("begun write", x.cell(0), 0);
        steps(x, 0);
        due("ended write", x.cell(0), 3);
        x.begin(0, 2);
        steps(x, 0);
        due("the next one begun", x.cell(0), 3);
        steps(x, 0);
        due("the next one ended", x.cell(0), 2);
    }

    private static void whatOverlaps() {
        of("Two ACCESSES overlap, if each BEGAN ahead of the END of the other");
        for (int base = 0; base <= 1; base++) {
            int any = base == 0 ? 4 : 2;
            StrongCells x = built(0, 0, base, 4, 2);
            whole(x, 0, 1);
            x.begin(1, 0);
            steps(x, 1);
            due("the write ended just ahead", x.process(1, 4), 1);
            x.begin(0, 2);
            due("the writing is begun, no write yet", x.process(1, 4), 1);
            x.begin(2, 0);
            steps(x, 2);
            due("a read beside it", x.process(1, 4), 1);
            steps(x, 0);
            due("the write began", x.process(1, 4), any);
            due("of the other one, too", x.process(2, 4), any);
            steps(x, 1);
            due("told", x.act(1, 2), base == 0 ? 0 : 1);
            x.begin(1, 0);
            steps(x, 1);
            due("under way as it begins", x.process(1, 4), any);
            steps(x, 0);
            due("it ended since", x.process(1, 4), any);
            due("and of the other one", x.process(2, 4), any);
            steps(x, 1);
            x.begin(1, 0);
            steps(x, 1);
            due("behind all", x.process(1, 4), 1);
            steps(x, 1);
            due("told what it holds", x.act(5, 2), 2);
        }
    }

    private static void anotherCell() {
        of("if no WRITE to its CELL overlaps it, what the CELL holds");
        StrongCells x = built(2, 0, 0, 4, 1);
        x.begin(0, 3);
        x.begin(1, 0);
        steps(x, 0, 1);
        due("a write to cell 3, a read of cell 0", x.process(1, 4), 1);
        due("told", x.step(1, 0), 1);
        due("read", x.act(1, 2), 0);
        x = built(4, 0, 1, 2, 2);
        x.begin(0, 1);
        x.begin(2, 0);
        steps(x, 0, 2);
        due("a write to cell 0, a read of cell 1", x.process(2, 4), 1);
    }

    private static void anythingByBase0() {
        of("by BASE 0 any of 0 .. R less 1");
        for (int r = 2; r <= 4; r++) {
            for (int v = 0; v < r; v++) {
                StrongCells x = built(0, 0, 0, r, 1);
                whole(x, 0, 1);
                x.begin(0, 1);
                steps(x, 0);
                x.begin(1, 0);
                steps(x, 1);
                due("choices", x.process(1, 4), r);
                due("step", x.step(1, v), 1);
                due("choice " + v + " of " + r, x.act(2, 2), v);
            }
        }
        StrongCells x = built(1, 1, 0, 2, 1);
        x.begin(0, 0);
        x.begin(1, 0);
        steps(x, 0, 1);
        due("by BUILD 1", x.process(1, 4), 2);
    }

    private static void bitsByBase0() {
        of("BUILD 2: 0, 1");
        for (int r = 2; r <= 4; r++) {
            for (int bit = 0; bit < 2; bit++) {
                StrongCells x = built(2, 0, 0, r, 1);
                x.begin(0, 0);
                x.begin(1, 0);
                steps(x, 0, 1);
                due("choices by R " + r, x.process(1, 4), 2);
                due("bit " + bit, x.step(1, bit), bit);
                due("1: it told; 0: on to cell 1", bit == 1 ? x.act(1, 2) : x.process(1, 3), bit == 1 ? 0 : 1);
            }
        }
    }

    private static int[] got(StrongCells x, int p, int a) {
        int[] all = new int[x.process(p, 4)];
        for (int c = 0; c < all.length; c++) {
            x.step(p, c);
            all[c] = x.act(a, 2);
            x.undo(1);
        }
        return all;
    }

    private static void oldThenNewByBase1() {
        of("what the CELL held as it BEGAN; then, in the order in which those BEGAN, what is told by WRITES that overlap it");
        StrongCells x = built(0, 0, 1, 4, 1);
        whole(x, 0, 2);
        x.begin(1, 0);
        steps(x, 1);
        due("none overlaps", got(x, 1, 1), 2);
        whole(x, 0, 3);
        due("one", got(x, 1, 1), 2, 3);
        whole(x, 0, 1);
        due("two", got(x, 1, 1), 2, 3, 1);
        x.begin(0, 0);
        due("the next one has not begun", got(x, 1, 1), 2, 3, 1);
        steps(x, 0);
        due("three, the last one under way", got(x, 1, 1), 2, 3, 1, 0);
    }

    private static void eachNumberOnce() {
        of("each number once, as it comes first");
        StrongCells x = built(0, 0, 1, 3, 1);
        whole(x, 0, 1);
        x.begin(1, 0);
        steps(x, 1);
        whole(x, 0, 2);
        whole(x, 0, 1);
        due("what it held comes again", got(x, 1, 1), 1, 2);
        whole(x, 0, 0);
        whole(x, 0, 2);
        due("what was written comes again", got(x, 1, 1), 1, 2, 0);
    }

    private static void underWayAsItBegins() {
        of("A WRITE that is under way as it BEGINS overlaps it, too, and comes behind what the CELL holds");
        StrongCells x = built(0, 0, 1, 4, 1);
        whole(x, 0, 3);
        x.begin(0, 1);
        x.begin(1, 0);
        steps(x, 0, 1);
        due("under way", got(x, 1, 2), 3, 1);
        steps(x, 0);
        due("ended", got(x, 1, 2), 3, 1);
        whole(x, 0, 2);
        due("and one behind it", got(x, 1, 2), 3, 1, 2);
    }

    private static void justOneChoice() {
        of("just one, if it can get but one thing");
        StrongCells x = built(0, 0, 1, 4, 1);
        x.begin(0, 0);
        x.begin(1, 0);
        steps(x, 0, 1);
        due("0 is written upon 0", got(x, 1, 1), 0);
        due("a second one", x.step(1, 1), OUTSIDE);
        x = built(0, 0, 2, 4, 1);
        x.begin(0, 3);
        x.begin(1, 0);
        due("by BASE 2", got(x, 1, 1), 0);
    }

    private static void sevenChoices() {
        of("CHOICES of a READ that six WRITES overlap");
        StrongCells x = built(3, 1, 1, 4, 1);
        x.begin(1, 0);
        steps(x, 1);
        for (int a = 1; a < 7; a++) whole(x, 0, a % 4);
        due("tags are not the same, though values are", got(x, 1, 0), 0, 1, 2, 3, 0, 1, 2);
        due("an eighth", x.step(1, 7), OUTSIDE);
        due("the seventh", x.step(1, 6), 1);
        due("told", x.act(0, 2), 2);
    }

    // ---- builds

    private static void sameValueNoAccess() {
        of("BUILD 1: the VALUE of its last ACT (0 at first); if it is the same, that ACT has no ACCESS");
        StrongCells x = built(1, 0, 0, 2, 1);
        int[] values = {0, 1, 1, 0, 0, 1};
        int[] due = {1, 2, 1, 2, 1, 2};
        for (int a = 0; a < values.length; a++) {
            x.begin(0, values[a]);
            due("cell of act " + a, x.process(0, 3), due[a] == 1 ? NONE : 0);
            due("steps of act " + a, toEnd(x, 0), due[a]);
        }
        x.build(1, 1, 0, 2, 1);
        for (int a = 0; a < values.length; a++) {
            x.begin(0, values[a]);
            due("poor: cell of act " + a, x.process(0, 3), 0);
            due("poor: steps of act " + a, toEnd(x, 0), 2);
        }
        x.clear();
        x.begin(0, 0);
        due("cleared: it keeps 0", x.process(0, 5), 0);
    }

    private static void keptFromTheBeginning() {
        of("BUILD 1: from the beginning of the next one on that of this");
        for (int poor = 0; poor < 2; poor++) {
            StrongCells x = built(1, poor, 0, 2, 1);
            due("at first", x.process(0, 5), 0);
            x.begin(0, 1);
            due("begun", x.process(0, 5), 1);
            toEnd(x, 0);
            due("ended", x.process(0, 5), 1);
            x.begin(0, 0);
            due("the next one", x.process(0, 5), 0);
            x.undo(1);
            due("undone", x.process(0, 5), 1);
        }
    }

    private static void rowLeastAndGreatest() {
        of("BUILD 2: to WRITE v: 1 to CELL v; then 0 to v less 1, .., 0; to READ: till one gets 1");
        for (int r = 2; r <= 4; r++) {
            for (int v = 0; v < r; v++) {
                StrongCells x = built(2, 0, 2, r, 1);
                x.begin(0, v);
                int[] bits = new int[r];
                bits[0] = 1;
                for (int c = v; c >= 0; c--) {
                    due("cell of " + v + " of " + r, x.process(0, 3), c);
                    bits[c] = c == v ? 1 : 0;
                    due("step", x.step(0, 0), c == 0 ? 1 : 0);
                    due("cells", cells(x), bits);
                }
                x.begin(1, 0);
                due("accesses of the read of " + v, toEnd(x, 1), v + 1);
                due("told", x.act(1, 2), v);
            }
        }
    }

    private static void noneGot1() {
        of("BUILD 2: R less 1, if none did");
        for (int r = 2; r <= 4; r++) {
            StrongCells x = built(2, 1, 2, r, 1);
            x.begin(0, 1);
            steps(x, 0);
            due("no bit but that of cell 1, not written yet", cells(x), new int[r]);
            x.begin(1, 0);
            due("all cells", toEnd(x, 1), r);
            due("told", x.act(1, 2), r - 1);
        }
    }

    private static void poorRowInOrder() {
        of("BUILD 2, POOR: 0 to each CELL that is not v, rising, first; of 1 to v last");
        int[][] order = {{1, 2, 3, 0}, {0, 2, 3, 1}, {0, 1, 3, 2}, {0, 1, 2, 3}};
        for (int v = 0; v < 4; v++) {
            StrongCells x = built(2, 1, 2, 4, 1);
            // Of old only cell 3 holds 1.
            whole(x, 0, 3);
            x.begin(0, v);
            int[] bits = {0, 0, 0, 1};
            for (int i = 0; i < 4; i++) {
                due("cell " + i + " of " + v, x.process(0, 3), order[v][i]);
                bits[order[v][i]] = i == 3 ? 1 : 0;
                due("step", x.step(0, 0), i == 3 ? 1 : 0);
                due("cells", cells(x), bits);
            }
        }
    }

    private static void stampsFrom0() {
        of("BUILD 3: STAMP, which the WRITER keeps (0 at first), is 1 more as the ACT is begun");
        StrongCells x = built(3, 0, 1, 4, 1);
        due("at first", x.process(0, 5), 0);
        for (int a = 1; a <= 7; a++) {
            x.begin(0, a % 4);
            due("begun", x.process(0, 5), a);
            due("told(14)", x.told(14), a - 1);
            toEnd(x, 0);
            due("cell", x.cell(0), 100 * a + a % 4);
            due("told(14)", x.told(14), a);
        }
    }

    private static void noOlderStamp() {
        of("BUILD 3: if the STAMP that it got is no less than that of the TAG which the READER keeps (0 at first), it keeps this");
        StrongCells x = built(3, 0, 1, 4, 1);
        due("at first", x.process(1, 5), 0);
        whole(x, 1, 0);
        due("0, no less than 0", x.act(0, 2), 0);
        whole(x, 0, 3);
        whole(x, 1, 0);
        due("more", x.process(1, 5), 103);
        whole(x, 1, 0);
        due("no less", x.process(1, 5), 103);
        x.begin(0, 1);
        steps(x, 0);
        read(x, 1, 1);
        due("more, under way", x.process(1, 5), 201);
        read(x, 1, 0);
        due("less", x.process(1, 5), 201);
        due("told", x.act(5, 2), 1);
    }

    private static void oneReaderTellsNone() {
        of("BUILD 4: for each READER i one; then for i and each other READER j, rising, one which i tells j");
        for (int readers = 1; readers <= 3; readers++) {
            StrongCells x = built(4, 0, 1, 2, readers);
            due("cells", x.told(6), readers * readers);
            x.begin(0, 1);
            due("writes", toEnd(x, 0), 2 * readers);
            x.begin(1, 0);
            due("accesses of a read", toEnd(x, 1), 2 * (2 * readers - 1));
            x.build(4, 1, 1, 2, readers);
            x.begin(1, 0);
            due("poor", toEnd(x, 1), 2);
        }
        StrongCells x = built(4, 0, 1, 2, 2);
        int[][] paths = {{0, 3, 2}, {1, 2, 3}};
        for (int i = 0; i < 2; i++) {
            x.begin(1 + i, 0);
            for (int c : paths[i]) {
                due("cell of reader " + i, x.process(1 + i, 3), c);
                steps(x, 1 + i, 1 + i);
            }
        }
    }

    private static void nineCells() {
        of("CELLS: by BUILD 4 with three READERS 0 .. 8");
        StrongCells x = built(4, 0, 1, 2, 3);
        x.begin(3, 0);
        due("the last cell at first", x.cell(8), 0);
        whole(x, 0, 1);
        toEnd(x, 3);
        due("told by the last reader to the other two", cells(x), 101, 101, 101, 0, 0, 0, 0, 101, 101);
        due("the first act", act(x, 0), 3, NONE, 1, 0, 17, 1, 1);
        due("the second one", act(x, 1), 0, 1, NONE, 1, 7, NONE, NONE);
        whole(x, 1, 0);
        due("a read of LAST", act(x, 2), 1, NONE, 1, 18, 28, 1, 1);
    }

    private static void asTheLastReadEnds() {
        of("BUILD 4: as the last READ ENDS, the greatest TAG, which it keeps from then on");
        StrongCells x = built(4, 0, 1, 4, 2);
        x.begin(0, 3);
        steps(x, 0, 0);
        x.begin(1, 0);
        steps(x, 1, 1, 1);
        due("the last read is under way", x.process(1, 5), 0);
        steps(x, 1);
        due("it ended", x.process(1, 5), 103);
        steps(x, 1);
        due("its write is under way", cells(x), 103, 0, 0, 0);
        steps(x, 1);
        due("it ended", cells(x), 103, 0, 103, 0);
        // Reader 1's own cell holds 0 yet; reader 0 told it.
        whole(x, 2, 0);
        due("told by the other one", x.act(2, 2), 3);
        due("told on", cells(x), 103, 0, 103, 103);
    }

    private static void greatestOfWhatItKeeps() {
        of("BUILD 4: and of that which it keeps (0 at first); POOR: the greater of this and of what it kept");
        for (int poor = 0; poor < 2; poor++) {
            StrongCells x = built(4, poor, 1, 4, 1);
            due("at first", x.process(1, 5), 0);
            x.begin(0, 3);
            steps(x, 0);
            read(x, 1, 1);
            due("new", x.process(1, 5), 103);
            read(x, 1, 0);
            due("old, but it keeps what is greater", x.process(1, 5), 103);
            due("told", x.act(2, 2), 3);
        }
    }

    private static void greaterTag() {
        of("BUILD 5: the greater STAMP and 1; the VALUE of the greater TAG");
        StrongCells x = built(5, 0, 2, 4, 1);
        whole(x, 2, 0);
        due("0 of both", x.act(0, 2), 0);
        x.begin(0, 3);
        x.begin(1, 0);
        steps(x, 0, 0, 1, 1, 0, 1);
        due("one stamp: the greater writer, though the value is less", cells(x), 103, 110);
        whole(x, 2, 0);
        due("told", x.act(3, 2), 0);
        whole(x, 0, 1);
        due("cell 0", cells(x), 201, 110);
        whole(x, 1, 2);
        due("above that of cell 0", cells(x), 201, 312);
        whole(x, 1, 0);
        due("above its own", cells(x), 201, 410);
        due("told(14)", x.told(14), 4);
    }

    private static void keptAsItWrites() {
        of("BUILD 5: the STAMP (which it keeps, as it WRITES); POOR: that of its own last TAG, 0 at first, and 1");
        StrongCells x = built(5, 0, 2, 4, 1);
        x.begin(1, 2);
        int[] kept = {0, 0, 1};
        for (int k : kept) {
            steps(x, 1);
            due("keeps", x.process(1, 5), k);
        }
        x.build(5, 1, 2, 4, 1);
        for (int a = 1; a <= 3; a++) {
            x.begin(1, 2);
            due("poor: begun", x.process(1, 5), a - 1);
            due("poor: one access", x.step(1, 0), 1);
            due("poor: keeps", x.process(1, 5), a);
        }
        x.begin(0, 3);
        steps(x, 0);
        due("poor: each its own", cells(x), 103, 312);
        due("a reader keeps nothing", x.process(2, 5), 0);
    }

    // ---- the history

    private static void sevenActs() {
        of("HISTORY (7 ACTS at most)");
        StrongCells x = built(0, 0, 0, 2, 3);
        for (int a = 0; a < 4; a++) due("begin", x.begin(a, 1), a);
        x.run();
        for (int a = 4; a < 7; a++) due("begin", x.begin(a - 4, 1), a);
        due("an eighth", x.begin(3, 0), FULL);
        due("told(7)", x.told(7), 7);
        due("told(8)", x.told(8), 3);
        due("the last one", act(x, 6), 2, NONE, NONE, 14, NONE, NONE, NONE);
    }

    private static void timeAheadOfThis() {
        of("TIME: 0 at first, 1 more by each beginning and each STEP; START, END: TIME ahead of this");
        StrongCells x = new StrongCells();
        due("told(9)", x.told(9), 0);
        x.begin(1, 0);
        due("START", x.act(0, 3), 0);
        due("told(9)", x.told(9), 1);
        steps(x, 1);
        due("no END yet", x.act(0, 4), NONE);
        steps(x, 1);
        due("END", x.act(0, 4), 2);
        due("told(9)", x.told(9), 3);
        x.write(0, 0);
        x.seed(3);
        x.keep(0);
        due("no step of an act", x.told(9), 3);
        x.clear();
        due("cleared", x.told(9), 0);
    }

    private static void endsByItsFirstStep() {
        of("one without ACCESSES by its first STEP");
        for (int base = 0; base <= 2; base++) {
            StrongCells x = built(1, 0, base, 2, 1);
            x.begin(0, 0);
            due("under way", process(x, 0), 0, 0, 0, NONE, 1, 0);
            due("not ended", x.act(0, 4), NONE);
            due("a second choice", x.step(0, 1), OUTSIDE);
            due("step", x.step(0, 0), 1);
            due("END", x.act(0, 4), 1);
            due("none", process(x, 0), NONE, 0, 0, NONE, 0, 0);
        }
    }

    private static void processWithoutAct() {
        of("process: NONE, 0: no ACT");
        StrongCells x = built(2, 0, 0, 4, 1);
        for (int p = 0; p < 2; p++) {
            due("none yet", process(x, p), NONE, 0, 0, NONE, 0, 0);
            whole(x, p, 3);
            due("ended", process(x, p), NONE, 0, 0, NONE, 0, 0);
        }
    }

    // ---- judged

    private static void lastIsTheLatest() {
        of("LAST: the VALUE of the ACT of WRITING with the greatest END that is AHEAD of it");
        StrongCells x = built(0, 0, 0, 4, 1);
        whole(x, 0, 1);
        whole(x, 0, 2);
        x.begin(1, 0);
        x.begin(0, 3);
        steps(x, 1, 0);
        int[] regular = {0, 0, 1, 1};
        for (int v = 0; v < 4; v++) {
            x.step(1, v);
            due("told " + v, x.act(2, 6), regular[v]);
            due("safe, as one overlaps", x.act(2, 5), 1);
            due("told(12)", x.told(12), regular[v] == 1 ? NONE : 2);
            due("atomic", x.told(10), regular[v]);
            x.undo(1);
        }
    }

    private static void lastIs0() {
        of("LAST: 0: none");
        StrongCells x = built(0, 0, 0, 3, 1);
        whole(x, 1, 0);
        due("none at all", act(x, 0), 1, NONE, 0, 0, 2, 1, 1);
        x.begin(1, 0);
        x.begin(0, 1);
        steps(x, 0, 1, 0, 1);
        due("one that overlaps it is not AHEAD", act(x, 1), 1, NONE, 0, 3, 8, 1, 1);
        due("told(12)", x.told(12), NONE);
    }

    private static void startedAheadOfItsEnd() {
        of("an ACT of WRITING that has not ended overlaps a READ, if it STARTED ahead of its END");
        StrongCells x = built(0, 0, 0, 3, 1);
        x.begin(1, 0);
        steps(x, 1);
        whole(x, 0, 1);
        x.begin(0, 2);
        x.step(1, 2);
        due("just ahead", act(x, 0), 1, NONE, 2, 0, 6, 1, 1);
        due("atomic", x.told(10), 1);
        x.undo(2);
        x.step(1, 2);
        due("not yet", x.act(0, 6), 0);
        x.begin(0, 2);
        due("just behind", act(x, 0), 1, NONE, 2, 0, 5, 1, 0);
        due("not atomic", x.told(10), 0);
    }

    private static void readsThatEndedAlone() {
        of("READS that ended alone are judged; (5, 6: NONE: a WRITING, not ended)");
        StrongCells x = built(0, 0, 0, 3, 1);
        x.begin(1, 0);
        x.begin(0, 1);
        steps(x, 1, 0);
        due("not ended", act(x, 0), 1, NONE, NONE, 0, NONE, NONE, NONE);
        due("a writing", act(x, 1), 0, 1, NONE, 1, NONE, NONE, NONE);
        due("told(12)", x.told(12), NONE);
        due("told(10)", x.told(10), 1);
        x.step(1, 2);
        due("ended", act(x, 0), 1, NONE, 2, 0, 4, 1, 0);
        due("told(12)", x.told(12), 0);
        steps(x, 0);
        due("a writing that ended", act(x, 1), 0, 1, NONE, 1, 5, NONE, NONE);
    }

    private static void twoWriters() {
        of("(11 to 13: NONE: two WRITERS), (5, 6: NONE: two WRITERS)");
        StrongCells x = built(5, 1, 2, 4, 1);
        whole(x, 1, 3);
        whole(x, 1, 2);
        whole(x, 0, 1);
        whole(x, 2, 0);
        due("it told what is gone", act(x, 3), 2, NONE, 2, 6, 8, NONE, NONE);
        due("told(10)", x.told(10), 0);
        for (int what = 11; what <= 13; what++) due("told(" + what + ")", x.told(what), NONE);
    }

    private static void backToTheBeginning() {
        of("MAY HAVE TOLD: the first is 1; 0 is the beginning; 0: none is AHEAD");
        StrongCells x = built(0, 0, 0, 2, 1);
        x.begin(0, 1);
        steps(x, 0);
        read(x, 1, 0);
        due("0", x.told(13), NONE);
        read(x, 1, 1);
        due("0, 1", x.told(13), NONE);
        read(x, 1, 0);
        due("0, 1, 0", x.told(13), 3);
        due("regular", x.told(12), NONE);
        due("not atomic", x.told(10), 0);
    }

    private static void notLessIsNotBack() {
        of("It GOES BACK, if the greatest number is less than the least one");
        StrongCells x = built(0, 0, 0, 2, 1);
        x.begin(0, 1);
        steps(x, 0);
        for (int i = 0; i < 3; i++) {
            read(x, 1, 1);
            due("1 again", x.told(13), NONE);
        }
        toEnd(x, 0);
        whole(x, 1, 0);
        due("1 of the same one, now LAST", x.told(13), NONE);
        due("atomic", x.told(10), 1);
    }

    private static void notAheadIsNotBack() {
        of("GOES BACK: of some REGULAR READ that is AHEAD of it");
        StrongCells x = built(0, 0, 1, 2, 2);
        x.begin(0, 1);
        x.begin(1, 0);
        x.begin(2, 0);
        steps(x, 0, 1, 2);
        x.step(1, 1);
        x.step(2, 0);
        due("new, then old, overlapping", x.told(13), NONE);
        due("told", x.act(2, 2), 0);
        due("atomic", x.told(10), 1);
        x.clear();
        x.begin(0, 1);
        x.begin(1, 0);
        steps(x, 0, 1);
        x.step(1, 1);
        x.begin(2, 0);
        x.step(2, 0);
        x.step(2, 0);
        due("new, then old by another, behind its END", x.told(13), 2);
        due("told(10)", x.told(10), 0);
    }

    private static void mayHaveToldSeveral() {
        of("MAY HAVE TOLD: that of LAST, if it told this VALUE; those that overlap it and WRITE the VALUE that it told");
        // 0 is of the beginning or of the second writing; the read behind it of the first one: no way back is seen.
        StrongCells x = built(0, 0, 0, 2, 1);
        x.begin(1, 0);
        steps(x, 1);
        whole(x, 0, 1);
        x.begin(0, 0);
        steps(x, 0);
        x.step(1, 0);
        due("0 of the beginning or of the second", x.act(0, 2), 0);
        read(x, 1, 1);
        due("1: the least of the one ahead is 0", x.told(13), NONE);
        due("atomic", x.told(10), 1);
        read(x, 1, 0);
        due("0 of the second", x.told(13), NONE);
        read(x, 1, 1);
        due("1 of the first: back", x.told(13), 5);
        due("not atomic", x.told(10), 0);
    }

    private static void notRegularNeither() {
        of("A READ that is not REGULAR neither GOES BACK, nor is it looked at as one AHEAD");
        StrongCells x = built(0, 0, 0, 4, 1);
        whole(x, 0, 1);
        x.begin(0, 2);
        steps(x, 0);
        read(x, 1, 3);
        due("not regular, none ahead", x.told(13), NONE);
        read(x, 1, 1);
        due("of the first one: what is ahead is not looked at", x.told(13), NONE);
        read(x, 1, 2);
        due("of the second one", x.told(13), NONE);
        read(x, 1, 3);
        due("not regular, one ahead", x.told(13), NONE);
        read(x, 1, 1);
        due("of the first one: back", x.told(13), 6);
    }

    private static void firstOfSeveral() {
        of("the first READ that is not REGULAR, that GOES BACK");
        StrongCells x = built(0, 0, 0, 4, 1);
        x.begin(0, 1);
        steps(x, 0);
        read(x, 1, 3);
        read(x, 1, 2);
        due("told(12)", x.told(12), 1);
        read(x, 1, 1);
        read(x, 1, 0);
        read(x, 1, 0);
        due("told(13)", x.told(13), 4);
        due("told(12)", x.told(12), 1);
        due("told(11)", x.told(11), NONE);
    }

    private static void atomicOfNone() {
        of("ATOMIC is the HISTORY, if all ACTS that ended can be put in a row");
        StrongCells x = built(0, 0, 0, 4, 2);
        due("none", x.told(10), 1);
        x.begin(0, 3);
        due("none has ended", x.told(10), 1);
        x.begin(1, 0);
        x.begin(2, 0);
        steps(x, 1, 2);
        due("none has ended", x.told(10), 1);
        steps(x, 0);
        x.step(1, 2);
        due("one that none wrote", x.told(10), 0);
        x.undo(1);
        x.step(1, 0);
        due("0: none ahead in the row", x.told(10), 1);
    }

    private static void someThatHaveNotEnded() {
        of("ATOMIC: and some of those of WRITING that have not");
        StrongCells x = built(0, 0, 0, 4, 2);
        x.begin(0, 3);
        steps(x, 0);
        read(x, 1, 0);
        due("without it", x.told(10), 1);
        read(x, 2, 3);
        due("with it", x.told(10), 1);
        read(x, 1, 0);
        due("not both", x.told(10), 0);
        x.undo(3);
        toEnd(x, 0);
        read(x, 1, 0);
        due("ended", x.told(10), 1);
        due("told", x.act(3, 2), 3);
    }

    private static void rowKeepsAhead() {
        of("ATOMIC: in a row, none behind one that it is AHEAD of");
        // Poor: reader 1's cell is not written yet; what reader 0 told is AHEAD.
        StrongCells x = built(4, 1, 1, 2, 2);
        x.begin(0, 1);
        steps(x, 0, 0);
        x.begin(2, 0);
        whole(x, 1, 0);
        toEnd(x, 2);
        due("told", x.act(2, 2) + 10 * x.act(1, 2), 1);
        due("the two reads overlap", x.told(10), 1);
        x.undo(x.told(17));
        x.begin(0, 1);
        steps(x, 0, 0);
        whole(x, 1, 0);
        whole(x, 2, 0);
        due("told", x.act(1, 2) + 10 * x.act(2, 2), 1);
        due("one is AHEAD of the other", x.told(10), 0);
    }

    private static void noStampsWithoutTags() {
        of("told: the greatest STAMP in CELLS (0: no TAGS)");
        for (int build = 0; build <= 5; build++) {
            StrongCells x = built(build, 0, build == 5 ? 2 : 1, 2, 1);
            due("at first", x.told(14), 0);
            whole(x, 0, 1);
            due("by BUILD " + build, x.told(14), build < 3 ? 0 : 1);
        }
        StrongCells x = built(5, 1, 2, 2, 1);
        whole(x, 1, 0);
        whole(x, 1, 0);
        whole(x, 0, 1);
        due("of the second cell", x.told(14), 2);
    }

    // ---- all ways

    private static void noneUnderWay() {
        of("ALL WAYS: none is UNDER WAY: one, of no STEPS; the first BAD one (NONE)");
        StrongCells x = new StrongCells();
        due("a new one", ways(x), 1, 0, NONE, 0);
        whole(x, 0, 1);
        whole(x, 1, 0);
        due("all ended", ways(x), 1, 0, NONE, 0);
        x.begin(0, 0);
        steps(x, 0);
        read(x, 1, 0);
        read(x, 1, 1);
        toEnd(x, 0);
        due("and the history is no good", ways(x), 1, 1, 0, 0);
    }

    /** A poor row of three, base 0: steps of the writer till the read begins, and then on, and one more writing. */
    private static StrongCells poorRow(int ahead, int behind) {
        StrongCells x = built(2, 1, 0, 3, 1);
        x.begin(0, 1);
        for (int i = 0; i < ahead; i++) steps(x, 0);
        x.begin(1, 0);
        steps(x, 1);
        for (int i = 0; i < behind; i++) steps(x, 0);
        due("the first writing ended", x.process(0, 0), NONE);
        x.begin(0, 2);
        return x;
    }

    private static void first500() {
        of("ALL WAYS: the first 500 are gone through");
        due("499 ways", ways(poorRow(2, 4)), 499, 0, NONE, 11);
        due("500 ways", ways(poorRow(1, 5)), 500, 0, NONE, 11);
        StrongCells x = new StrongCells();
        x.build(0, 0, 0, 4, 3);
        for (int p = 0; p < 4; p++) x.begin(p, 1);
        due("far more", x.ways(0), 500);
        due("asking changes nothing", x.told(9), 4);
    }

    private static void badOfTheFirst500() {
        of("BAD: of the first 500 alone");
        // Of 502 ways only numbers 0 and 1 are good.
        StrongCells x = built(2, 1, 2, 4, 2);
        x.begin(0, 1);
        x.begin(1, 0);
        x.begin(2, 0);
        steps(x, 0, 2, 0, 1);
        due("ways", ways(x), 500, 498, 2, 8);
        // The history is no good yet: all are bad.
        x = built(0, 0, 0, 4, 3);
        x.begin(0, 1);
        steps(x, 0);
        read(x, 1, 2);
        for (int p = 1; p < 4; p++) x.begin(p, 0);
        due("all", ways(x), 500, 500, 0, 7);
    }

    private static void longestOfTheFirst500() {
        of("ways: STEPS of the longest, of those gone through");
        // The longest way of all has 16 steps: four by each process, as no read sees a bit. It is far behind.
        StrongCells x = built(2, 1, 2, 4, 3);
        x.begin(0, 2);
        for (int p = 1; p < 4; p++) x.begin(p, 0);
        due("ways(3)", x.ways(3), 13);
        // Few enough to be gone through: a read of one more cell, if it passes cell 0 ahead of the write to it.
        x = built(2, 0, 2, 2, 1);
        whole(x, 0, 1);
        x.begin(0, 0);
        x.begin(1, 0);
        due("the write, the read; the read's one, the write, the read's other; the read, the write", ways(x), 3, 0, NONE, 3);
    }

    private static void wayOfNoAccess() {
        of("ALL WAYS of an ACT without ACCESSES");
        StrongCells x = built(1, 0, 0, 2, 1);
        x.begin(0, 0);
        due("one of one step", ways(x), 1, 0, NONE, 1);
        x.begin(1, 0);
        due("it ahead of, between, behind two", ways(x), 3, 0, NONE, 3);
        due("run()", x.run(), 3);
        due("it went first", x.act(0, 4), 2);
    }

    private static void orderOfWays() {
        of("ALL WAYS: in the order of PROCESSES, then CHOICES, of the first STEP, then the next ..");
        StrongCells x = built(0, 0, 0, 3, 2);
        x.begin(0, 1);
        steps(x, 0);
        x.begin(1, 0);
        steps(x, 1);
        // 0: the write ends, the read tells 0; 1: 1; 2 (no good): 2; then 0, 1, 2 (no good) with the write behind.
        due("ways", ways(x), 6, 2, 2, 2);
        due("bad()", x.bad(), 2);
        due("the read came behind the write", act(x, 1), 1, NONE, 2, 2, 5, 1, 0);
        x.clear();
        x.begin(1, 0);
        x.begin(0, 1);
        x.begin(2, 0);
        due("run()", x.run(), 6);
        due("processes, not acts, by their numbers", x.act(1, 4) + 100 * x.act(0, 4) + 10000 * x.act(2, 4), 80604);
    }

    private static void badOfNoSteps() {
        of("bad: with no ACT UNDER WAY the one of no STEPS may be BAD: 0, a deed, too");
        StrongCells x = built(0, 0, 0, 3, 1);
        x.begin(0, 1);
        steps(x, 0);
        read(x, 1, 2);
        due("of one step", ways(x), 1, 1, 0, 1);
        due("bad()", x.bad(), 1);
        due("ended", x.told(8), 0);
        int deeds = x.told(17);
        String was = moved(x);
        due("bad()", x.bad(), 0);
        due("a deed", x.told(17), deeds + 1);
        same("nothing else is changed", moved(x), was);
        due("run()", x.run(), NOT);
        due("undo(1)", x.undo(1), deeds);
        same("undone", moved(x), was);
    }

    private static void badBehindTheFirst500() {
        of("bad: NOT: none of the first 500 is BAD");
        // The first one that is bad is number 506.
        StrongCells x = built(5, 1, 2, 3, 3);
        x.begin(1, 1);
        steps(x, 1);
        x.begin(4, 0);
        x.begin(0, 0);
        x.begin(2, 0);
        steps(x, 0);
        x.begin(0, 0);
        x.begin(3, 0);
        x.begin(1, 2);
        steps(x, 4);
        due("ways", ways(x), 500, 0, NONE, 7);
        due("bad()", x.bad(), NOT);
        // Here it is number 495, and no other one.
        x = built(2, 1, 0, 4, 2);
        x.begin(2, 0);
        x.begin(1, 0);
        x.begin(0, 3);
        steps(x, 1, 0, 1, 1);
        due("ways", ways(x), 500, 1, 495, 20);
        due("bad()", x.bad() > 0, true);
        due("told(10)", x.told(10), 0);
    }

    // ---- the book

    private static void wrongOfNone() {
        of("WRONG: the first that is otherwise now; NONE");
        StrongCells x = new StrongCells();
        due("no entry", x.told(16), NONE);
        whole(x, 1, 0);
        x.write(0, 0);
        due("it is so", x.told(16), NONE);
        x.write(0, 1);
        x.write(0, 0);
        x.write(0, -2);
        due("the first one of two", x.told(16), 1);
    }

    private static void wrongThatIsNoMore() {
        of("WRONG: one that there is no more: it is WRONG, too");
        StrongCells x = new StrongCells();
        x.begin(0, 1);
        x.begin(1, 0);
        x.write(0, NONE);
        x.write(1, NONE);
        due("both are so", x.told(16), NONE);
        x.undo(1);
        due("act 1 is no more", x.told(16), 1);
        x.begin(1, 0);
        due("there is one again", x.told(16), NONE);
        x.clear();
        due("none is any more", x.told(16), 0);
        x.begin(1, 0);
        due("act 0 alone", x.told(16), 1);
        x.build(0, 0, 0, 2, 1);
        due("none by build()", x.told(16), 0);
        due("told(15)", x.told(15), 2);
        x.begin(1, 0);
        x.begin(0, 1);
        x.keep(0);
        due("both again", x.told(16), NONE);
        x.clear();
        x.goBack(0);
        due("both by an image", x.told(16), NONE);
    }

    private static void notEndedOrAWriting() {
        of("WRONG: not ended, a WRITING: NONE");
        StrongCells x = new StrongCells();
        x.begin(1, 0);
        whole(x, 0, 1);
        x.write(1, NONE);
        x.write(0, NONE);
        due("so it is", x.told(16), NONE);
        x.write(1, 1);
        due("a writing told no value", x.told(16), 2);
        x.tear();
        x.write(0, 0);
        due("not ended", x.told(16), 0);
        toEnd(x, 1);
        x.tear();
        x.write(0, NONE);
        due("ended", x.told(16), 0);
    }

    private static void tearOfAnEmptyBook() {
        of("tear: how much it had, of an empty BOOK, too");
        StrongCells x = new StrongCells();
        due("tear()", x.tear(), 0);
        x.begin(1, 0);
        x.write(0, 5);
        due("tear()", x.tear(), 1);
        due("tear()", x.tear(), 0);
        due("told(15)", x.told(15), 0);
        due("told(16)", x.told(16), NONE);
        due("write()", x.write(0, NONE), 1);
    }

    // ---- by draws

    private static void seedAtFirst() {
        of("THE SEED (0 at first)");
        StrongCells x = new StrongCells();
        due("told(18)", x.told(18), 0);
        due("what it was", x.seed(0), 0);
        // 12345 / 65536 is 0: process 0; then 1406932606 / 65536 is 21468, left over by 2: 0.
        due("drift(1)", x.drift(1), 1);
        due("told(18)", x.told(18), 1406932606);
        due("the writer begins to write 0", act(x, 0), 0, 0, NONE, 0, NONE, NONE, NONE);
    }

    private static void leftOverBy2ToThe31() {
        of("each DRAW it becomes it times 1103515245 and 12345, left over by 2 to the 31; the DRAW of n is it / 65536, left over by n");
        // Of each: the seed, what a first draw makes of it, the process (of two), what it is behind all, what it writes.
        int[][] draws = {
            // 2 times 1103515245 and 12345 is 2207042835, which is 59559187 above 2 to the 31.
            {2, 0, 1495354192, 1},
            {1, 0, 377401575, 2},
            {3, 1, 1163074432, NONE},
            {2147483647, 1, 1043980748, NONE},
            {2147483646, 1, 2087949151, NONE},
            // It becomes 0, then 12345.
            {2088216195, 0, 12345, 0},
            // It becomes 2147483647, / 65536 is 32767.
            {230538014, 1, 2147483647, NONE},
        };
        for (int[] d : draws) {
            StrongCells x = built(0, 0, 0, 4, 1);
            due("seed", x.seed(d[0]), 0);
            due("drift(1) by " + d[0], x.drift(1), 1);
            due("process by " + d[0], x.act(0, 0), d[1]);
            due("told(18) by " + d[0], x.told(18), d[2]);
            due("writes by " + d[0], x.act(0, 1), d[3]);
        }
        // 59559187 / 65536 is 908, 2087949151 / 65536 is 31859: of two, three, four, five processes.
        int[][] built = {{0, 0, 1}, {0, 0, 2}, {0, 0, 3}, {5, 2, 3}};
        int[] by908 = {0, 2, 0, 3}, by31859 = {1, 2, 3, 4};
        for (int i = 0; i < 4; i++) {
            StrongCells x = built(built[i][0], 0, built[i][1], 2, built[i][2]);
            x.seed(2);
            x.drift(1);
            due("908 left over by " + x.told(5), x.act(0, 0), by908[i]);
            x.clear();
            x.seed(2147483646);
            x.drift(1);
            due("31859 left over by " + x.told(5), x.act(0, 0), by31859[i]);
        }
    }

    private static void drawOfChoices() {
        of("BY DRAWS: if its ACT is UNDER WAY, a STEP with a DRAW of its CHOICES");
        StrongCells x = built(0, 0, 0, 4, 1);
        x.begin(0, 1);
        x.begin(1, 0);
        steps(x, 0, 1);
        // 1163074432: process 1; 465823161 / 65536 is 7107, left over by 4: 3.
        x.seed(3);
        due("drift(1)", x.drift(1), 5);
        due("told(18)", x.told(18), 465823161);
        due("told", x.act(1, 2), 3);
        // 59559187: process 0; then a draw of its one choice.
        x.seed(2);
        due("drift(1)", x.drift(1), 6);
        due("a draw of one choice, too", x.told(18), 1495354192);
        due("ended", x.act(0, 4), 5);
        // 1163074432: process 1 begins: no draw of a value.
        x.seed(3);
        due("drift(1)", x.drift(1), 7);
        due("a reader's beginning is one draw", x.told(18), 1163074432);
    }

    private static void driftOnceAndTwenty() {
        of("drift: n times BY DRAWS (1 .. 20): TIME");
        StrongCells x = built(4, 0, 1, 3, 3), y = built(4, 0, 1, 3, 3);
        due("drift(20)", x.drift(20), 20);
        for (int i = 1; i <= 20; i++) due("drift(1)", y.drift(1), i);
        same("once twenty, or twenty times one", all(x), all(y));
        due("a deed each", x.told(17), 16);
        due("undo(16)", x.undo(16), 0);
        due("the first four are not kept", x.told(9), 4);
    }

    private static void driftWithNoRoom() {
        of("BY DRAWS: else, if there is room, an ACT is begun");
        StrongCells x = built(0, 0, 2, 2, 1);
        for (int a = 0; a < 6; a++) whole(x, 1, 0);
        x.begin(1, 0);
        int deeds = x.told(17);
        // 59559187: process 0, none of its under way, no room: no other draw, no deed.
        x.seed(2);
        due("drift(1)", x.drift(1), 13);
        due("one draw", x.told(18), 59559187);
        due("no deed", x.told(17), deeds);
        due("told(7)", x.told(7), 7);
        // 1163074432: process 1, under way: it ends.
        x.seed(3);
        due("drift(1)", x.drift(1), 14);
        due("two draws", x.told(18), 465823161);
        due("a deed", x.told(17), deeds + 1);
        due("told(8)", x.told(8), 0);
        String was = moved(x);
        due("nothing can be done any more", x.drift(20), 14);
        due("no deed", x.told(17), deeds + 1);
        due("undo(1)", x.undo(1), deeds);
        due("the step is undone", x.told(9), 13);
        x.step(1, 0);
        same("as it was", moved(x), was);
    }

    // ---- undone

    private static void sixteenAreKept() {
        of("UNDONE: 16 at most are kept");
        for (int deeds = 15; deeds <= 18; deeds++) {
            StrongCells x = built(4, 0, 1, 2, 3);
            for (int i = 0; i < deeds; i++) x.drift(1);
            int kept = Math.min(deeds, 16);
            due("of " + deeds, x.told(17), kept);
            due("one more of " + deeds, x.undo(kept + 1), kept < 16 ? NOT : OUTSIDE);
            due("all of " + deeds, x.undo(kept), 0);
            due("ahead of them", x.told(9), deeds - kept);
            due("none is left", x.undo(1), NOT);
        }
        StrongCells x = built(4, 0, 1, 2, 3);
        x.drift(18);
        for (int i = 15; i >= 0; i--) {
            due("one by one", x.undo(1), i);
            due("told(9)", x.told(9), i + 2);
        }
        x.drift(3);
        due("what is undone is no deed any more", x.told(17), 3);
        due("undo(3)", x.undo(3), 0);
    }

    private static void deedsAreOne() {
        of("UNDONE: begin(), step(), run(), bad(), each time BY DRAWS that did something");
        StrongCells x = built(0, 0, 0, 3, 2);
        x.begin(0, 1);
        due("begin()", x.told(17), 1);
        steps(x, 0);
        due("step()", x.told(17), 2);
        x.begin(1, 0);
        x.begin(2, 0);
        due("run() of five steps", x.run(), 5);
        due("run()", x.told(17), 5);
        due("undo(1)", x.undo(1), 4);
        due("told(9)", x.told(9), 4);
        due("bad() of five steps", x.bad(), 5);
        due("bad()", x.told(17), 5);
        due("undo(1)", x.undo(1), 4);
        due("told(9)", x.told(9), 4);
        x.drift(3);
        due("drift(3)", x.told(17), 7);
        x.told(10);
        x.ways(0);
        x.write(0, 1);
        x.tear();
        x.seed(4);
        due("no other call", x.told(17), 7);
    }

    private static void deedsSince() {
        of("UNDONE: since the latest build(), clear(), IMAGE (nothing can be undone then)");
        for (int kind = 0; kind < 5; kind++) {
            StrongCells x = new StrongCells();
            x.keep(1);
            x.begin(0, 1);
            steps(x, 0);
            due("two", x.told(17), 2);
            switch (kind) {
                case 0:
                    x.build(0, 0, 0, 2, 1);
                    break;
                case 1:
                    x.clear();
                    break;
                case 2:
                    x.keep(0);
                    break;
                case 3:
                    x.goBack(1);
                    break;
                default:
                    x.keep(1);
            }
            due("none, kind " + kind, x.told(17), 0);
            due("undo(1)", x.undo(1), NOT);
            int time = x.told(9);
            x.begin(1, 0);
            due("undo(1)", x.undo(1), 0);
            due("as ahead of it", x.told(9), time);
        }
    }

    private static void seedAndBookStay() {
        of("UNDONE: THE SEED, THE BOOK stay");
        StrongCells x = new StrongCells();
        x.drift(2);
        x.write(0, NONE);
        int seed = x.told(18);
        due("undo(2)", x.undo(2), 0);
        due("told(18)", x.told(18), seed);
        due("told(15)", x.told(15), 1);
        of("build, clear: THE SEED, THE BOOK, IMAGES stay");
        x.drift(1);
        x.write(0, NONE);
        x.keep(1);
        seed = x.told(18);
        x.clear();
        due("told(18)", x.told(18), seed);
        due("told(15)", x.told(15), 2);
        x.build(5, 0, 2, 2, 1);
        due("told(18)", x.told(18), seed);
        due("told(15)", x.told(15), 2);
        due("goBack(1)", x.goBack(1), 1);
        due("told(7)", x.told(7), 1);
        due("told(0)", x.told(0), 0);
    }

    // ---- images

    private static void imagesKeepAllButTheBook() {
        of("IMAGES 0, 1 keep all but THE BOOK");
        StrongCells x = built(3, 1, 1, 4, 1);
        x.begin(0, 3);
        x.begin(1, 0);
        steps(x, 0, 1);
        x.seed(11);
        x.write(0, 1);
        x.keep(0);
        String first = moved(x);
        x.build(1, 0, 2, 2, 3);
        x.begin(0, 0);
        x.seed(22);
        x.write(0, 2);
        x.keep(1);
        String second = moved(x);
        x.clear();
        x.seed(33);
        x.tear();
        x.begin(2, 0);
        x.write(0, 3);
        due("goBack(0)", x.goBack(0), 1);
        same("image 0", moved(x), first);
        due("its seed", x.told(18), 11);
        due("the book stays", x.told(15), 1);
        due("goBack(1)", x.goBack(1), 1);
        same("image 1", moved(x), second);
        due("its seed", x.told(18), 22);
        due("the book stays", x.told(15), 1);
        due("goBack(0) again", x.goBack(0), 1);
        same("image 0", moved(x), first);
    }

    private static void imageOfWhatIsNew() {
        of("keep: IMAGE i becomes what is so");
        StrongCells x = new StrongCells();
        x.keep(0);
        x.keep(1);
        whole(x, 0, 1);
        x.seed(2147483647);
        due("keep(1), once more", x.keep(1), 1);
        due("goBack(0)", x.goBack(0), 1);
        due("as it was new", told(x), 0, 0, 0, 2, 1, 2, 1, 0, 0, 0, 1, NONE, NONE, NONE, 0, 0, NONE, 0, 0);
        due("goBack(1)", x.goBack(1), 1);
        due("told(7)", x.told(7), 1);
        due("the greatest seed", x.told(18), 2147483647);
        due("cell", Arrays.toString(cells(x)).equals("[1]"), true);
    }
}
