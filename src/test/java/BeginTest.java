/** Promise 7: begin. */
public final class BeginTest {
    private static final Check CHECK = new Check("BeginTest");

    public static void main(String[] args) {
        begun(1, 8);
        begun(250, 96);
        inPlaceOfAnother();
        refused("nothing runs", poweredEmpty(), 9, 20);
        refused("no power", off(), 9, 20);
        int[][] wrong = {{0, 20}, {251, 20}, {9, 7}, {9, 97}, {-5, 20}, {9, Integer.MIN_VALUE}};
        for (int[] w : wrong) {
            SwapLoader x = Check.running();
            x.begin(9, 20);
            x.feed(0x0AC0_0140L, 4);
            refused("wrong numbers", x, w[0], w[1]);
        }
        refused("a request", Check.requested(), 9, 20);
        refused("on trial", Check.tried(), 9, 20);
        SwapLoader confirmed = Check.tried();
        confirmed.confirm();
        refused("confirmed", confirmed, 9, 20);
        confirmed.boot();
        CHECK.due("log erased", confirmed.begin(9, 20), 4);
        for (int k = 0; k < 6; k++) {
            cutAfter(k);
        }
        CHECK.end();
    }

    private static void begun(int version, int length) {
        SwapLoader x = Check.patched();
        int operations = x.state(6);
        int writes = x.state(7);
        int[] want = Check.flash(x);
        java.util.Arrays.fill(want, 96, 192, 255);
        CHECK.due("begin", x.begin(version, length), 4);
        CHECK.dueStates("begin", x, 1, 7, 4, 4, 0, 0, operations + 6, writes);
        CHECK.dueFlash("begin", Check.flash(x), want);
        CHECK.due("version(1)", x.version(1), 0);
    }

    private static void inPlaceOfAnother() {
        SwapLoader x = Check.running();
        x.begin(9, 20);
        Check.feedAll(x, 64, 50, 3, 140);
        CHECK.due("begin", x.begin(10, 9), 4);
        CHECK.dueStates("begin", x, 1, 7, 4, 4);
        CHECK.due("a command, not a byte to add", Check.feedAll(x, 0), 5);
        CHECK.due("from the first place", x.byteAt(96 + 4), x.byteAt(4));
        CHECK.due("to its length", Check.feedAll(x, 63), 9);
        CHECK.due("its version", x.version(1), 10);
    }

    private static void refused(String why, SwapLoader x, int version, int length) {
        int[] flash = Check.flash(x);
        int[] states = Check.states(x);
        CHECK.due(why + ": begin(" + version + ", " + length + ")", x.begin(version, length), Check.BAD);
        CHECK.dueUnchanged(why + ": begin", x, flash, states);
    }

    private static void cutAfter(int k) {
        SwapLoader x = Check.running();
        x.begin(9, 96);
        Check.feedAll(x, 63, 63);
        int[] want = Check.flash(x);
        java.util.Arrays.fill(want, 96, 96 + 16 * k, 255);
        int operations = x.state(6);
        int writes = x.state(7);
        x.cut(k);
        CHECK.due("cut in begin", x.begin(10, 20), Check.GONE);
        CHECK.dueFlash("cut after " + k, Check.flash(x), want);
        CHECK.dueStates("cut after " + k, x, 0, 0, 0, 0, 0, 0, operations + k, writes);
        CHECK.due("boot", x.boot(), 7);
        CHECK.due("no patch", x.feed(0, 1), Check.BAD);
    }

    private static SwapLoader poweredEmpty() {
        SwapLoader x = new SwapLoader();
        x.boot();
        return x;
    }

    private static SwapLoader off() {
        SwapLoader x = Check.running();
        x.off();
        return x;
    }
}
