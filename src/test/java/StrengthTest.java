/**
 * What the document's first sentence says: each build makes strong cells of weak ones, and its poorer way lacks just
 * that. Over many runs by draws no history of a build falls short of its strength, and some of its poorer way does.
 */
public final class StrengthTest extends Checks {
    private static final int RUNS = 600, DRIFTS = 6;

    // in how many runs the history was not atomic, and some read not safe, not regular, or gone back
    private static int notAtomic, notSafe, notRegular, back;

    public static void main(String[] args) {
        onlyWhatChanges();
        rowOfBits();
        rememberingReader();
        readersWhoTell();
        writersWhoLook();
        cellsThemselves();
        end("each build is as strong as told, and its poorer way lacks that");
    }

    private static void cellsThemselves() {
        of("cells that tell anything while they are written, the old or the new, the one thing");
        runs(0, 0, 0, 3, 3);
        due("safe alone", notSafe == 0 && notRegular > 0, true);
        runs(0, 0, 1, 3, 3);
        due("regular, but not atomic", notSafe == 0 && notRegular == 0 && back > 0 && notAtomic > 0, true);
        runs(0, 0, 2, 3, 3);
        due("atomic", notSafe == 0 && notRegular == 0 && back == 0 && notAtomic == 0, true);
    }

    private static void onlyWhatChanges() {
        of("writing only what changes");
        runs(1, 0, 0, 2, 3);
        due("safe makes regular", notRegular, 0);
        runs(1, 1, 0, 2, 3);
        due("POOR does not", notRegular > 0, true);
    }

    private static void rowOfBits() {
        of("a row of bits read from below");
        runs(2, 0, 1, 4, 3);
        due("regular bits make regular cells", notRegular, 0);
        runs(2, 1, 1, 4, 3);
        due("POOR they do not", notRegular > 0, true);
        runs(2, 0, 2, 4, 3);
        due("atomic bits", notRegular + notAtomic, 0);
        runs(2, 1, 2, 4, 3);
        due("POOR", notRegular > 0, true);
    }

    private static void rememberingReader() {
        of("stamps and a reader who remembers");
        runs(3, 0, 1, 4, 1);
        due("regular makes atomic", notRegular + back + notAtomic, 0);
        runs(3, 1, 1, 4, 1);
        due("POOR it is regular, and goes back", notRegular == 0 && back > 0 && notAtomic > 0, true);
    }

    private static void readersWhoTell() {
        of("readers who tell one another");
        runs(4, 0, 1, 4, 3);
        due("regular makes atomic", notRegular + back + notAtomic, 0);
        runs(4, 1, 1, 4, 3);
        due("POOR it is regular, and goes back", notRegular == 0 && back > 0 && notAtomic > 0, true);
    }

    private static void writersWhoLook() {
        of("writers who look at all stamps");
        runs(5, 0, 2, 4, 3);
        due("two writers make one atomic cell", notAtomic, 0);
        runs(5, 1, 2, 4, 3);
        due("POOR they do not", notAtomic > 0, true);
    }

    private static void runs(int build, int poor, int base, int r, int readers) {
        notAtomic = notSafe = notRegular = back = 0;
        for (int i = 0; i < RUNS; i++) {
            StrongCells x = built(build, poor, base, r, readers);
            x.seed(i * 2654435 + 17 & Integer.MAX_VALUE);
            for (int n = 0; n < DRIFTS; n++) x.drift(15);
            x.run();
            if (x.told(10) == 0) notAtomic++;
            if (x.told(11) != NONE) notSafe++;
            if (x.told(12) != NONE) notRegular++;
            if (x.told(13) != NONE) back++;
        }
    }
}
