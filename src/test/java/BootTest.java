/** Promise 3: boot, by every case of booting. */
public final class BootTest {
    private static final Check CHECK = new Check("BootTest");

    public static void main(String[] args) {
        nothingRuns();
        withoutRequest();
        trial();
        unconfirmedGoesBack();
        confirmedStays();
        cutBetweenTriedAndStarted();
        endsPatch();
        cutStaysWithoutOperations();
        CHECK.end();
    }

    private static void nothingRuns() {
        SwapLoader x = new SwapLoader();
        CHECK.due("boot of an erased flash", x.boot(), 0);
        CHECK.dueStates("boot of an erased flash", x, 1, 0, 0, 0, 0, 0, 0, 0);
        CHECK.due("again", x.boot(), 0);
    }

    private static void withoutRequest() {
        SwapLoader x = new SwapLoader();
        x.factory(7, 40, 99);
        CHECK.due("boot", x.boot(), 7);
        CHECK.dueStates("boot", x, 1, 7, 0, 0, 0, 0, 0, 0);
        CHECK.due("boot with power", x.boot(), 7);
        CHECK.dueStates("boot with power", x, 1, 7, 0, 0, 0, 0, 0, 0);
    }

    private static void trial() {
        SwapLoader x = Check.requested();
        int[] before = Check.flash(x);
        int operations = x.state(6);
        int writes = x.state(7);
        CHECK.due("boot of a change", x.boot(), 8);
        int[] want = before.clone();
        int moved = 0;
        for (int i = 0; i < 96; i++) {
            want[i] = before[96 + i];
            want[96 + i] = before[i];
            moved += (before[i] != 255 ? 2 : 0) + (before[96 + i] != 255 ? 1 : 0);
        }
        System.arraycopy(before, 80, want, 192, 16);
        want[Check.TRIED] = 0;
        want[Check.STARTED] = 0;
        want[Check.LOG + 4] = 0;
        want[Check.LOG + 5] = 0;
        want[Check.LOG + 6] = 252;
        CHECK.dueFlash("boot of a change", Check.flash(x), want);
        CHECK.dueStates("boot of a change", x, 1, 8, 0, 0, 18, 0, operations + 18 + moved + 20, writes + moved + 20);
        CHECK.due("version(1)", x.version(1), 7);
    }

    private static void unconfirmedGoesBack() {
        SwapLoader x = Check.requested();
        int[] before = Check.flash(x);
        x.boot();
        int writes = x.state(7);
        int operations = x.state(6);
        CHECK.due("boot of what is not confirmed", x.boot(), 7);
        for (int a = 0; a < 192; a++) {
            CHECK.due("changed back: byteAt(" + a + ")", x.byteAt(a), before[a]);
        }
        for (int a = Check.LOG; a < 240; a++) {
            CHECK.due("logs erased: byteAt(" + a + ")", x.byteAt(a), 255);
        }
        CHECK.due("erased pages", x.state(6) - operations - (x.state(7) - writes), 18 + 2);
        CHECK.due("boot after that", x.boot(), 7);
        CHECK.due("request again", x.request(), 1);
        CHECK.due("boot again", x.boot(), 8);
    }

    private static void confirmedStays() {
        SwapLoader x = Check.tried();
        x.confirm();
        int[] want = Check.flash(x);
        int operations = x.state(6);
        java.util.Arrays.fill(want, Check.LOG, Check.LOG + 16, 255);
        CHECK.due("boot of what is confirmed", x.boot(), 8);
        CHECK.dueFlash("boot of what is confirmed", Check.flash(x), want);
        CHECK.due("one erase", x.state(6), operations + 1);
        CHECK.due("boot after that", x.boot(), 8);
        CHECK.due("nothing done", x.state(6), operations + 1);
    }

    private static void cutBetweenTriedAndStarted() {
        SwapLoader whole = Check.requested();
        int before = whole.state(6);
        whole.boot();
        int operations = whole.state(6) - before;
        SwapLoader x = Check.requested();
        x.cut(operations - 1);
        CHECK.due("cut before STARTED", x.boot(), Check.GONE);
        CHECK.due("TRIED", x.byteAt(Check.TRIED), 0);
        CHECK.due("STARTED", x.byteAt(Check.STARTED), 255);
        CHECK.due("the trial is still due", x.boot(), 8);
        CHECK.due("STARTED now", x.byteAt(Check.STARTED), 0);
        CHECK.due("one write", x.state(6), before + operations);
        CHECK.due("then back", x.boot(), 7);
    }

    private static void endsPatch() {
        SwapLoader x = Check.running();
        x.begin(9, 20);
        x.feed(0, 1);
        x.boot();
        CHECK.dueStates("boot in a patch", x, 1, 7, 0, 0);
        CHECK.due("feed", x.feed(0, 1), Check.BAD);
        SwapLoader y = Check.patched();
        CHECK.due("done", y.state(2), 70);
        y.boot();
        CHECK.dueStates("boot after a patch", y, 1, 7, 0, 0);
        CHECK.due("NEXT stays", y.version(1), 8);
    }

    private static void cutStaysWithoutOperations() {
        SwapLoader x = Check.running();
        x.cut(0);
        CHECK.due("boot without operations", x.boot(), 7);
        CHECK.due("the cut stays", x.safe(), 0);
        SwapLoader y = Check.requested();
        y.cut(0);
        CHECK.due("boot", y.boot(), Check.GONE);
        CHECK.due("the cut is over", y.safe(), -1);
        CHECK.dueStates("power gone", y, 0, 0, 0, 0, 0, 0);
        CHECK.due("off", y.off(), false);
        CHECK.due("boot again", y.boot(), 8);
    }
}
