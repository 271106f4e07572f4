import java.util.Random;

/** Long runs of mixed calls, right and wrong ones, against the model. Always the same runs. */
public final class ModelTest {
    private static final Check CHECK = new Check("ModelTest");
    private static final int RUNS = 400;
    private static final int CALLS = 512;

    public static void main(String[] args) {
        int[] seen = new int[5];
        for (int run = 0; run < RUNS; run++) {
            oneRun(run, seen);
        }
        CHECK.due("changes were made", seen[0] > RUNS, true);
        CHECK.due("and taken back", seen[1] > RUNS, true);
        CHECK.due("and confirmed", seen[2] > RUNS, true);
        CHECK.due("patches were done", seen[3] > RUNS, true);
        CHECK.due("the power went", seen[4] > RUNS, true);
        CHECK.end();
    }

    private static void oneRun(int run, int[] seen) {
        Random random = new Random(run);
        SwapLoader x = new SwapLoader();
        Model m = new Model();
        for (int call = 0; call < CALLS; call++) {
            int runningBefore = m.state(1);
            boolean onTrial = m.flash[209] == 0;
            long answer = oneCall("run " + run + ", call " + call, random, x, m);
            seen[0] += !onTrial && m.flash[209] == 0 ? 1 : 0;
            seen[1] += onTrial && m.flash[209] != 0 && m.state(1) != runningBefore ? 1 : 0;
            seen[2] += m.flash[210] == 0 ? 1 : 0;
            seen[3] += m.version(1) != 0 && m.state(2) > 4 ? 1 : 0;
            seen[4] += answer == Check.GONE ? 1 : 0;
            CHECK.dueFlash("run " + run + ", after call " + call, Check.flash(x), m.flash);
            for (int what = -1; what <= 8; what++) {
                CHECK.due("run " + run + ", after call " + call + ": state(" + what + ")", x.state(what), m.state(what));
            }
            for (int which = -1; which <= 2; which++) {
                CHECK.due("run " + run + ", after call " + call + ": version(" + which + ")",
                    x.version(which), m.version(which));
            }
        }
    }

    private static long oneCall(String when, Random random, SwapLoader x, Model m) {
        int kind = random.nextInt(100);
        int version = number(random, 1, 250);
        int length = random.nextInt(3) == 0 ? number(random, 8, 96) : number(random, 8, 24);
        if (kind < 2 || m.version(0) == 0 && m.state(4) == 0 && kind < 50) {
            int seed = random.nextInt();
            return due(when + ": factory", x.factory(version, length, seed) ? 1 : 0, m.factory(version, length, seed));
        } else if (kind < 20) {
            return due(when + ": boot", x.boot(), m.boot());
        } else if (kind < 22) {
            return due(when + ": off", x.off() ? 1 : 0, m.off());
        } else if (kind < 32) {
            int k = random.nextBoolean() ? number(random, 0, 20) : number(random, 0, 400);
            return due(when + ": cut(" + k + ")", x.cut(k) ? 1 : 0, m.cut(k));
        } else if (kind < 38) {
            return due(when + ": safe", x.safe(), m.safe());
        } else if (kind < 45) {
            return due(when + ": begin", x.begin(version, length), m.begin(version, length));
        } else if (kind < 80) {
            long bytes = random.nextLong();
            int n = number(random, 1, 8);
            return due(when + ": feed(" + bytes + ", " + n + ")", x.feed(bytes, n), m.feed(bytes, n));
        } else if (kind < 92) {
            return due(when + ": request", x.request(), m.request());
        }
        return due(when + ": confirm", x.confirm(), m.confirm());
    }

    private static long due(String call, long got, long want) {
        CHECK.due(call, got, want);
        return want;
    }

    /** Mostly within the bounds, at times just outside. */
    private static int number(Random random, int low, int high) {
        return random.nextInt(12) == 0 ? (random.nextBoolean() ? low - 1 : high + 1)
            : low + random.nextInt(high - low + 1);
    }
}
