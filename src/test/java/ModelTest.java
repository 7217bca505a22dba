import java.util.Random;

/**
 * Long runs of drawn calls, right and wrong ones, on the program and on the slow model; all answers must be alike.
 * No object is used for more than the 512 calls that are promised.
 */
public final class ModelTest {
    private static int wrong = 0;
    private static final int LOOK = 19 + 10 + 36 + 56, LOOKS = 2, CALLS = 512 - LOOKS * LOOK;

    public static void main(String[] args) {
        int runs = args.length > 0 ? Integer.parseInt(args[0]) : 400;
        for (int run = 0; run < runs && wrong < 10; run++) oneRun(run);
        System.out.println(wrong == 0 ? "the program and the model answer alike" : wrong + " answers are not alike");
        if (wrong != 0) System.exit(1);
    }

    private static void oneRun(int run) {
        Random draws = new Random(run);
        StrongCells x = new StrongCells();
        Model m = new Model();
        StringBuilder calls = new StringBuilder();
        for (int i = 0; i < CALLS; i++) {
            boolean look = i == CALLS / LOOKS || i == CALLS - 1;
            if (!oneCall(draws, x, m, calls) || look && !allAlike(x, m, calls)) {
                System.out.println("run " + run + ", call " + i + ":" + tail(calls.toString()));
                return;
            }
        }
    }

    private static String tail(String calls) {
        return calls.length() < 4000 ? calls : ".." + calls.substring(calls.length() - 4000);
    }

    private static boolean alike(StringBuilder calls, String call, int got, int want) {
        calls.append(' ').append(call).append('=').append(want);
        if (got == want) return true;
        wrong++;
        calls.append(" but answered ").append(got);
        return false;
    }

    private static int wild(Random d) {
        int[] far = {-1, -2, 5, 7, 17, 20, 21, 100, Integer.MAX_VALUE, Integer.MIN_VALUE, Integer.MAX_VALUE - 1, 0x20000000};
        return far[d.nextInt(far.length)];
    }

    private static int pick(Random d, int n) {
        return d.nextInt(30) == 0 ? wild(d) : d.nextInt(n);
    }

    private static int[] shape(Random d) {
        int build = pick(d, 6);
        int base = build == 3 || build == 4 ? 1 : build == 5 ? 2 : d.nextInt(3);
        int r = build == 1 ? 2 : 2 + d.nextInt(3), readers = build == 3 ? 1 : 1 + d.nextInt(3);
        if (d.nextInt(8) == 0) base = pick(d, 3);
        if (d.nextInt(8) == 0) r = pick(d, 5);
        if (d.nextInt(8) == 0) readers = pick(d, 4);
        return new int[] {build, pick(d, 2), base, r, readers};
    }

    /** All that is told without going through the ways: LOOK calls. */
    private static boolean allAlike(StrongCells x, Model m, StringBuilder calls) {
        boolean same = true;
        for (int i = 0; i <= 18; i++) same = same && alike(calls, "told(" + i + ")", x.told(i), m.told(i));
        for (int c = 0; c <= 9; c++) same = same && alike(calls, "cell(" + c + ")", x.cell(c), m.cell(c));
        for (int i = 0; i < 36; i++) same = same && alike(calls, "process(" + i / 6 + "," + i % 6 + ")", x.process(i / 6, i % 6), m.process(i / 6, i % 6));
        for (int i = 0; i < 56; i++) same = same && alike(calls, "act(" + i / 7 + "," + i % 7 + ")", x.act(i / 7, i % 7), m.act(i / 7, i % 7));
        return same;
    }

    private static boolean oneCall(Random d, StrongCells x, Model m, StringBuilder calls) {
        int kind = d.nextInt(100), a, b;
        if (kind < 3) {
            int[] s = shape(d);
            String call = "build(" + s[0] + "," + s[1] + "," + s[2] + "," + s[3] + "," + s[4] + ")";
            return alike(calls, call, x.build(s[0], s[1], s[2], s[3], s[4]), m.build(s[0], s[1], s[2], s[3], s[4]));
        }
        if (kind < 6) return alike(calls, "clear()", x.clear(), m.clear());
        if (kind < 22) {
            a = pick(d, m.told(5));
            b = pick(d, 4);
            return alike(calls, "begin(" + a + "," + b + ")", x.begin(a, b), m.begin(a, b));
        }
        if (kind < 52) {
            a = pick(d, m.told(5));
            b = pick(d, Math.max(1, m.process(a, 4)) + (d.nextInt(10) == 0 ? 1 : 0));
            return alike(calls, "step(" + a + "," + b + ")", x.step(a, b), m.step(a, b));
        }
        if (kind == 52) return alike(calls, "run()", x.run(), m.run());
        if (kind == 53) return alike(calls, "bad()", x.bad(), m.bad());
        if (kind < 57) {
            a = d.nextInt(6) == 0 ? wild(d) : 1 + d.nextInt(20);
            return alike(calls, "drift(" + a + ")", x.drift(a), m.drift(a));
        }
        if (kind < 60) {
            a = d.nextInt(6) == 0 ? wild(d) : d.nextInt(2) == 0 ? d.nextInt(18) : 1;
            return alike(calls, "undo(" + a + ")", x.undo(a), m.undo(a));
        }
        if (kind < 64) {
            a = pick(d, 8);
            b = d.nextInt(3) == 0 ? wild(d) : m.act(a, 2);
            return alike(calls, "write(" + a + "," + b + ")", x.write(a, b), m.write(a, b));
        }
        if (kind == 64) return d.nextInt(4) > 0 || alike(calls, "tear()", x.tear(), m.tear());
        if (kind == 65) {
            a = d.nextInt(2) == 0 ? d.nextInt() : wild(d);
            return alike(calls, "seed(" + a + ")", x.seed(a), m.seed(a));
        }
        if (kind == 66) {
            a = pick(d, 3);
            return alike(calls, "keep(" + a + ")", x.keep(a), m.keep(a));
        }
        if (kind == 67) {
            a = pick(d, 3);
            return alike(calls, "goBack(" + a + ")", x.goBack(a), m.goBack(a));
        }
        if (kind < 70) {
            // The model is slow where many acts are under way.
            if (d.nextInt(4) != 0) return true;
            a = d.nextInt(10) == 0 ? wild(d) : d.nextInt(5);
            return alike(calls, "ways(" + a + ")", x.ways(a), m.ways(a));
        }
        if (kind < 80) {
            a = pick(d, m.told(5) + 1);
            b = pick(d, 7);
            return alike(calls, "process(" + a + "," + b + ")", x.process(a, b), m.process(a, b));
        }
        if (kind < 89) {
            a = pick(d, m.told(7) + 1);
            b = pick(d, 8);
            return alike(calls, "act(" + a + "," + b + ")", x.act(a, b), m.act(a, b));
        }
        if (kind < 91) {
            a = pick(d, 10);
            return alike(calls, "cell(" + a + ")", x.cell(a), m.cell(a));
        }
        a = pick(d, 20);
        return alike(calls, "told(" + a + ")", x.told(a), m.told(a));
    }
}
