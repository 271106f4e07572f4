/** Promises 1 and 2: a new object, factory. */
public final class FactoryTest {
    private static final Check CHECK = new Check("FactoryTest");

    public static void main(String[] args) {
        newObject();
        image(7, 40, 99);
        image(1, 8, 0);
        image(250, 96, -1);
        image(250, 96, Integer.MIN_VALUE);
        knownBytes();
        refused();
        endsEverything();
        CHECK.end();
    }

    private static void newObject() {
        SwapLoader x = new SwapLoader();
        CHECK.dueFlash("new", Check.flash(x), erased());
        CHECK.dueStates("new", x, 0, 0, 0, 0, 0, 0, 0, 0);
        CHECK.due("new: safe", x.safe(), -1);
        CHECK.due("new: off", x.off(), false);
        CHECK.due("new: version(0)", x.version(0), 0);
        CHECK.due("new: version(1)", x.version(1), 0);
    }

    private static void image(int version, int length, int seed) {
        SwapLoader x = new SwapLoader();
        String call = "factory(" + version + ", " + length + ", " + seed + ")";
        CHECK.due(call, x.factory(version, length, seed), true);
        int[] want = erased();
        int s = seed;
        for (int i = 4; i < length; i++) {
            s = s * 1103515245 + 12345;
            want[i] = (s >>> 16) & 255;
        }
        want[0] = 165;
        want[1] = version;
        want[2] = length;
        want[3] = Check.sum(want, 0, version, length);
        CHECK.dueFlash(call, Check.flash(x), want);
        CHECK.dueStates(call, x, 0, 0, 0, 0, 0, 0, 0, 0);
        CHECK.due(call + ": version(0)", x.version(0), version);
    }

    /** Written numbers, so that a mistake in both program and test would show. */
    private static void knownBytes() {
        SwapLoader x = new SwapLoader();
        x.factory(7, 40, 99);
        CHECK.due("byte 3", x.byteAt(3), 170);
        CHECK.due("byte 4", x.byteAt(4), 176);
        CHECK.due("byte 39", x.byteAt(39), 128);
        CHECK.due("byte 40", x.byteAt(40), 255);
    }

    private static void refused() {
        int[][] wrong = {{0, 8}, {-1, 8}, {251, 8}, {1, 7}, {1, 97}, {1, -8}, {256 + 7, 40},
            {Integer.MIN_VALUE, 8}, {1, Integer.MAX_VALUE}};
        for (int[] w : wrong) {
            SwapLoader x = Check.running();
            x.begin(9, 20);
            x.feed(0, 1);
            x.cut(9);
            int[] flash = Check.flash(x);
            int[] states = Check.states(x);
            String call = "factory(" + w[0] + ", " + w[1] + ", 1)";
            CHECK.due(call, x.factory(w[0], w[1], 1), false);
            CHECK.dueUnchanged(call, x, flash, states);
            CHECK.due(call + ": safe", x.safe(), 9);
        }
    }

    private static void endsEverything() {
        SwapLoader x = Check.tried();
        x.cut(3);
        int operations = x.state(6);
        int writes = x.state(7);
        CHECK.due("factory on trial", x.factory(20, 30, 1), true);
        CHECK.dueStates("factory on trial", x, 0, 0, 0, 0, 0, 0, operations, writes);
        CHECK.due("factory on trial: safe", x.safe(), -1);
        for (int a = 30; a < 240; a++) {
            CHECK.due("factory on trial: byteAt(" + a + ")", x.byteAt(a), 255);
        }
        CHECK.due("boot", x.boot(), 20);

        SwapLoader y = Check.running();
        y.begin(9, 20);
        y.factory(3, 30, 1);
        CHECK.dueStates("factory in a patch", y, 0, 0, 0, 0);
        CHECK.due("feed", y.feed(0, 1), Check.BAD);
        y.boot();
        CHECK.due("feed after boot", y.feed(0, 1), Check.BAD);
    }

    private static int[] erased() {
        int[] bytes = new int[240];
        java.util.Arrays.fill(bytes, 255);
        return bytes;
    }
}
