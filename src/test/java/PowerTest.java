/** Promises 4, 5 and 6: off, cut, safe. */
public final class PowerTest {
    private static final Check CHECK = new Check("PowerTest");

    public static void main(String[] args) {
        off();
        cutNumbers();
        cutCounts();
        safe();
        CHECK.end();
    }

    private static void off() {
        SwapLoader x = new SwapLoader();
        CHECK.due("off without power", x.off(), false);
        x.boot();
        CHECK.due("off when nothing runs", x.off(), true);
        SwapLoader y = Check.running();
        y.begin(9, 20);
        y.feed(0, 1);
        y.cut(50);
        int[] flash = Check.flash(y);
        int operations = y.state(6);
        CHECK.due("off", y.off(), true);
        CHECK.dueStates("off", y, 0, 0, 0, 0, 0, 0, operations);
        CHECK.dueFlash("off", Check.flash(y), flash);
        CHECK.due("off again", y.off(), false);
        CHECK.due("begin", y.begin(9, 20), Check.BAD);
        CHECK.due("feed", y.feed(0, 1), Check.BAD);
        CHECK.due("request", y.request(), Check.BAD);
        CHECK.due("confirm", y.confirm(), Check.BAD);
        CHECK.due("the cut stays", y.safe(), 50);
    }

    private static void cutNumbers() {
        SwapLoader x = new SwapLoader();
        CHECK.due("cut(0)", x.cut(0), true);
        CHECK.due("safe", x.safe(), 0);
        CHECK.due("cut(1000)", x.cut(1000), true);
        for (int k : new int[] {-1, 1001, Integer.MIN_VALUE, Integer.MAX_VALUE}) {
            CHECK.due("cut(" + k + ")", x.cut(k), false);
        }
        CHECK.due("the one that was set stays", x.safe(), 1000);
    }

    private static void cutCounts() {
        SwapLoader x = Check.running();
        x.cut(3);
        x.cut(8);
        CHECK.due("begin is 6 operations", x.begin(9, 20), 4);
        CHECK.due("two more", x.feed(1, 1), 6);
        CHECK.due("none left, power still there", x.state(0), 1);
        CHECK.due("SEEK makes no operation", x.feed(0x0540, 2), 6);
        int operations = x.state(6);
        CHECK.due("the next one is not done", x.feed(0, 1), Check.GONE);
        CHECK.dueStates("gone", x, 0, 0, 0, 0, 0, 0, operations);
        CHECK.due("not written", x.byteAt(96 + 6), 255);
        CHECK.due("over", x.safe(), -1);

        SwapLoader y = Check.requested();
        y.cut(4);
        y.off();
        operations = y.state(6);
        CHECK.due("a cut outlasts off", y.boot(), Check.GONE);
        CHECK.due("four done", y.state(6), operations + 4);
        CHECK.due("no cut any more", y.boot(), 8);
    }

    private static void safe() {
        SwapLoader x = Check.running();
        CHECK.due("none set", x.safe(), -1);
        x.cut(10);
        x.begin(9, 20);
        CHECK.due("four left", x.safe(), 4);
        CHECK.due("none any more", x.safe(), -1);
        CHECK.due("the power stays", Check.feedAll(x, 15), 20);
    }
}
