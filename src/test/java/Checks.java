import java.util.Arrays;

/** What the tests of single calls share: what is due, what can be seen of an object, and acts gone whole. */
abstract class Checks {
    static final int NONE = -1, UNKNOWN = -1000000001, OUTSIDE = -1000000002, NOT = -1000000003, FULL = -1000000004;
    static final int FAR = Integer.MAX_VALUE, FAR_BELOW = Integer.MIN_VALUE;

    private static int wrong = 0;
    private static String about = "";

    /** Tells which promise or sentence of the document the next calls are about. */
    static void of(String sentence) {
        about = sentence;
    }

    static void due(String call, int got, int want) {
        if (got != want) tell(call + " answered " + got + ", due is " + want);
    }

    static void due(String call, boolean got, boolean want) {
        due(call, got ? 1 : 0, want ? 1 : 0);
    }

    static void due(String call, int[] got, int... want) {
        if (!Arrays.equals(got, want)) tell(call + " answered " + Arrays.toString(got) + ", due is " + Arrays.toString(want));
    }

    static void same(String call, String got, String want) {
        if (!got.equals(want)) tell(call + " left " + got + ", due is " + want);
    }

    private static void tell(String what) {
        wrong++;
        System.out.println(about + ": " + what);
    }

    static void end(String good) {
        System.out.println(wrong == 0 ? good : wrong + " answers are not as is due");
        if (wrong != 0) System.exit(1);
    }

    static StrongCells built(int build, int poor, int base, int r, int readers) {
        StrongCells x = new StrongCells();
        due("build", x.build(build, poor, base, r, readers), readers + (build == 5 ? 2 : 1));
        return x;
    }

    static int[] told(StrongCells x) {
        int[] all = new int[19];
        for (int i = 0; i < all.length; i++) all[i] = x.told(i);
        return all;
    }

    static int[] process(StrongCells x, int p) {
        int[] all = new int[6];
        for (int i = 0; i < all.length; i++) all[i] = x.process(p, i);
        return all;
    }

    static int[] act(StrongCells x, int a) {
        int[] all = new int[7];
        for (int i = 0; i < all.length; i++) all[i] = x.act(a, i);
        return all;
    }

    static int[] cells(StrongCells x) {
        int[] all = new int[x.told(6)];
        for (int i = 0; i < all.length; i++) all[i] = x.cell(i);
        return all;
    }

    static int[] ways(StrongCells x) {
        return new int[] {x.ways(0), x.ways(1), x.ways(2), x.ways(3)};
    }

    /** All that can be seen of the object, so that what is refused can be seen to change nothing. */
    static String all(StrongCells x) {
        return Arrays.toString(told(x)) + rest(x);
    }

    /** All that undoing brings back. */
    static String moved(StrongCells x) {
        return Arrays.toString(Arrays.copyOf(told(x), 15)) + rest(x);
    }

    private static String rest(StrongCells x) {
        StringBuilder s = new StringBuilder(Arrays.toString(cells(x)));
        for (int p = 0; p < x.told(5); p++) s.append(Arrays.toString(process(x, p)));
        for (int a = 0; a < x.told(7); a++) s.append(Arrays.toString(act(x, a)));
        return s.append(Arrays.toString(ways(x))).toString();
    }

    /** Steps of the process with choice 0, till its act ends; how many. */
    static int toEnd(StrongCells x, int p) {
        int n = 0;
        while (x.process(p, 0) != NONE && n < 50) {
            x.step(p, 0);
            n++;
        }
        return n;
    }

    static void whole(StrongCells x, int p, int v) {
        x.begin(p, v);
        toEnd(x, p);
    }
}
