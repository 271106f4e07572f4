/** "BOOTING" of the document, promises 3 and 4: a test for each sentence that names an edge. */
public final class BootEdgeTest {
    private static final Check CHECK = new Check("BootEdgeTest");

    public static void main(String[] args) {
        returnLogGoesFirst();
        returnLogAlone();
        logsAreErasedInOrder();
        brokenNextIsNotTried();
        brokenNextIsTriedOnceBegun();
        onlyTriedIsLeft();
        confirmedIsErased();
        confirmedIsErasedAgainAfterACut();
        startedGoesBack();
        triedAloneIsStarted();
        startedOnlyOnTrial();
        trialOfAnInvalidImage();
        erasedFlash();
        powerGoesAndComes();
        offAnswers();
        bootEndsThePatch();
        CHECK.end();
    }

    private static void dueErased(String when, SwapLoader x, int page) {
        for (int i = 0; i < 16; i++) {
            CHECK.due(when + ": byte " + i + " of page " + page, x.byteAt(16 * page + i), 255);
        }
    }

    private static int operationsOfBoot(SwapLoader x) {
        int before = x.state(6);
        x.boot();
        return x.state(6) - before;
    }

    /** "(1) The log in page 14 has a REQUEST", whatever page 13 says. */
    private static void returnLogGoesFirst() {
        int[][] trialLogs = {{15, 255, 255, 255}, {15, 0, 255, 255}, {15, 0, 255, 0}, {15, 0, 0, 0}};
        for (int[] log : trialLogs) {
            SwapLoader x = Check.patched();
            int[] before = Check.flash(x);
            Inside.put(x, Check.LOG, log);
            Inside.put(x, Check.BACK_LOG, 15);
            CHECK.due("boot", x.boot(), 8);
            for (int i = 0; i < 96; i++) {
                CHECK.due("changed " + i, x.byteAt(i), before[96 + i]);
            }
            dueErased("by page 14", x, 13);
            dueErased("by page 14", x, 14);
        }
    }

    /** The same when page 13 has none. */
    private static void returnLogAlone() {
        SwapLoader x = Check.patched();
        Inside.put(x, Check.BACK_LOG, 15, 255, 255, 255, 0, 0, 252);
        int before = x.state(6);
        CHECK.due("boot with all steps done", x.boot(), 7);
        CHECK.due("both pages are erased", x.state(6) - before, 2);
        dueErased("with all steps done", x, 14);
    }

    /** "then page 13 is erased, then page 14" */
    private static void logsAreErasedInOrder() {
        int whole = operationsOfBoot(Check.tried());
        SwapLoader x = Check.tried();
        CHECK.dueGone("cut before page 13", x, x::boot, whole - 2);
        CHECK.dueStates("cut before page 13", x, 0, 0, 0, 0, 18, 18);
        CHECK.due("REQUEST of page 13", x.byteAt(Check.LOG), 15);

        SwapLoader y = Check.tried();
        CHECK.dueGone("cut before page 14", y, y::boot, whole - 1);
        dueErased("cut before page 14", y, 13);
        CHECK.due("REQUEST of page 14", y.byteAt(Check.BACK_LOG), 15);
        int before = y.state(6);
        CHECK.due("boot", y.boot(), 7);
        CHECK.due("page 13 once more, and page 14", y.state(6) - before, 2);
        dueErased("boot", y, 14);
        CHECK.due("begin", y.begin(9, 20), 4);
    }

    /** "if no step of it is done and NEXT is not VALID, page 13 is erased" */
    private static void brokenNextIsNotTried() {
        SwapLoader x = Check.requested();
        Inside.put(x, Check.NEXT + 4, x.byteAt(Check.NEXT + 4) ^ 1);
        int[] want = Check.flash(x);
        want[Check.LOG] = 255;
        CHECK.dueGone("cut before it", x, x::boot, 0);
        CHECK.due("the REQUEST stays", x.byteAt(Check.LOG), 15);
        int before = x.state(6);
        int writes = x.state(7);
        CHECK.due("boot", x.boot(), 7);
        CHECK.dueFlash("boot", Check.flash(x), want);
        CHECK.dueStates("boot", x, 1, 7, 0, 0, 0, 0, before + 1, writes);
        CHECK.due("begin", x.begin(9, 20), 4);
    }

    /** "else the CHANGE goes on by it": one step is enough, even if NEXT is not VALID. */
    private static void brokenNextIsTriedOnceBegun() {
        SwapLoader x = Check.requested();
        Inside.put(x, Check.LOG + 4, 254);
        for (int i = 0; i < 16; i++) {
            Inside.put(x, Check.SPARE + i, x.byteAt(i));
        }
        Inside.put(x, Check.NEXT + 80, 1);
        Inside.put(x, Check.NEXT + 69, x.byteAt(Check.NEXT + 69) ^ 1);
        CHECK.due("NEXT is not VALID", x.version(1), 0);
        CHECK.due("boot", x.boot(), 0);
        CHECK.due("TRIED", x.byteAt(Check.TRIED), 0);
        CHECK.due("all steps", x.state(4), 18);
        CHECK.due("the last page", x.byteAt(80), 1);
        CHECK.due("NEXT has the old one", x.version(1), 7);
    }

    /** "and TRIED is written": all steps are done, and the power went before it. */
    private static void onlyTriedIsLeft() {
        int whole = operationsOfBoot(Check.requested());
        SwapLoader x = Check.requested();
        CHECK.dueGone("cut before TRIED", x, x::boot, whole - 2);
        CHECK.due("all steps", x.state(4), 18);
        CHECK.due("not TRIED", x.byteAt(Check.TRIED), 255);
        CHECK.due("nothing but TRIED and STARTED", operationsOfBoot(x), 2);
        CHECK.dueStates("boot", x, 1, 8, 0, 0, 18, 0);
    }

    /** "(3) Otherwise page 13 has a REQUEST and is TRIED and CONFIRMED: page 13 is erased." */
    private static void confirmedIsErased() {
        SwapLoader x = Check.tried();
        x.confirm();
        int[] want = Check.flash(x);
        java.util.Arrays.fill(want, Check.LOG, Check.BACK_LOG, 255);
        CHECK.due("one operation", operationsOfBoot(x), 1);
        CHECK.dueFlash("boot", Check.flash(x), want);
        CHECK.dueStates("boot", x, 1, 8, 0, 0, 0, 0);
        CHECK.due("none any more", operationsOfBoot(x), 0);
        CHECK.due("it stays", x.state(1), 8);
    }

    /** A cut there changes nothing back. */
    private static void confirmedIsErasedAgainAfterACut() {
        SwapLoader x = Check.tried();
        x.confirm();
        int[] flash = Check.flash(x);
        CHECK.dueGone("cut", x, x::boot, 0);
        CHECK.dueFlash("cut", Check.flash(x), flash);
        CHECK.due("boot", x.boot(), 8);
        dueErased("boot", x, 13);
    }

    /** "(4) ... the REQUEST of page 14 is written, then as (1)" */
    private static void startedGoesBack() {
        SwapLoader x = Check.tried();
        int[] want = Check.flash(x);
        want[Check.BACK_LOG] = 15;
        CHECK.dueGone("cut behind the REQUEST of page 14", x, x::boot, 1);
        CHECK.dueFlash("cut behind the REQUEST of page 14", Check.flash(x), want);
        int back = operationsOfBoot(x);
        CHECK.dueStates("boot", x, 1, 7, 0, 0, 0, 0);
        CHECK.due("the REQUEST is not written again", back, operationsOfBoot(Check.tried()) - 1);

        SwapLoader y = Check.tried();
        int[] flash = Check.flash(y);
        CHECK.dueGone("cut before the REQUEST of page 14", y, y::boot, 0);
        CHECK.dueFlash("cut before the REQUEST of page 14", Check.flash(y), flash);
        CHECK.due("boot", y.boot(), 7);
    }

    /** TRIED, but neither CONFIRMED nor STARTED: none of (1) to (4), and STARTED is written. */
    private static void triedAloneIsStarted() {
        int whole = operationsOfBoot(Check.requested());
        SwapLoader x = Check.requested();
        CHECK.dueGone("cut before STARTED", x, x::boot, whole - 1);
        CHECK.due("TRIED", x.byteAt(Check.TRIED), 0);
        int[] want = Check.flash(x);
        CHECK.dueGone("cut again", x, x::boot, 0);
        CHECK.dueFlash("cut again", Check.flash(x), want);
        want[Check.STARTED] = 0;
        CHECK.due("one operation", operationsOfBoot(x), 1);
        CHECK.dueFlash("boot", Check.flash(x), want);
        CHECK.due("confirm", x.confirm(), 1);
        CHECK.due("boot", x.boot(), 8);
    }

    /** "if page 13 has a REQUEST and is TRIED": not when there is no log any more, and none ever. */
    private static void startedOnlyOnTrial() {
        SwapLoader never = Check.patched();
        CHECK.due("no log", operationsOfBoot(never), 0);
        CHECK.due("STARTED", never.byteAt(Check.STARTED), 255);
        SwapLoader x = Check.requested();
        CHECK.due("only asked for", x.byteAt(Check.STARTED), 255);
        x.boot();
        CHECK.due("on trial", x.byteAt(Check.STARTED), 0);
        x.boot();
        CHECK.due("changed back", x.byteAt(Check.STARTED), 255);
        SwapLoader noRequest = Check.running();
        Inside.put(noRequest, Check.TRIED, 0);
        CHECK.due("TRIED without a REQUEST", operationsOfBoot(noRequest), 0);
    }

    /** "0 when MAIN has no VALID image": on trial, too, and then it goes back. */
    private static void trialOfAnInvalidImage() {
        SwapLoader x = Check.requested();
        x.cut(60);
        CHECK.due("cut in the change", x.boot(), Check.GONE);
        CHECK.due("three steps", x.state(4) >= 3, true);
        Inside.put(x, Check.NEXT + 69, x.byteAt(Check.NEXT + 69) ^ 1);
        CHECK.due("boot", x.boot(), 0);
        CHECK.dueStates("boot", x, 1, 0, 0, 0, 18, 0);
        CHECK.due("STARTED", x.byteAt(Check.STARTED), 0);
        CHECK.dueBad("confirm", x, x::confirm);
        CHECK.dueBad("request", x, x::request);
        CHECK.dueBad("begin", x, () -> x.begin(9, 20));
        CHECK.due("the old one comes back", x.boot(), 7);
        CHECK.due("request of what is not VALID", x.request(), 0);
    }

    /** "0 when MAIN has no VALID image: there is power, but nothing runs" */
    private static void erasedFlash() {
        SwapLoader x = new SwapLoader();
        CHECK.due("boot", x.boot(), 0);
        CHECK.dueStates("boot", x, 1, 0, 0, 0, 0, 0, 0, 0);
        CHECK.dueBad("begin", x, () -> x.begin(9, 20));
        CHECK.dueBad("feed", x, () -> x.feed(0, 1));
        CHECK.dueBad("request", x, x::request);
        CHECK.dueBad("confirm", x, x::confirm);
        CHECK.due("off", x.off(), true);
    }

    /** "(if it is not there; otherwise it goes and comes)": a cut that is set stays. */
    private static void powerGoesAndComes() {
        SwapLoader x = Check.running();
        x.cut(5);
        CHECK.due("boot with power", x.boot(), 7);
        CHECK.dueStates("boot with power", x, 1, 7, 0, 0, 0, 0, 0, 0);
        CHECK.due("the cut", Check.cutLeft(x), 5);
        x.off();
        CHECK.due("boot without power", x.boot(), 7);
        CHECK.due("the cut", Check.cutLeft(x), 5);
        SwapLoader y = Check.tried();
        CHECK.due("on trial, with power", y.boot(), 7);
        SwapLoader z = Check.tried();
        z.off();
        CHECK.due("on trial, without power", z.boot(), 7);
    }

    /** "true; false when there was none." */
    private static void offAnswers() {
        SwapLoader x = new SwapLoader();
        CHECK.dueIdle("off before any power", x, () -> x.off() ? 1 : 0, 0);
        x.boot();
        CHECK.due("off when nothing runs", x.off(), true);
        SwapLoader y = Check.tried();
        int[] flash = Check.flash(y);
        int[] states = Check.states(y);
        CHECK.due("off on trial", y.off(), true);
        CHECK.dueUnchanged("off on trial", y, flash, new int[] {0, 0, 0, 0, 18, 0, states[6], states[7]});
        CHECK.dueIdle("off again", y, () -> y.off() ? 1 : 0, 0);
        y.cut(0);
        CHECK.due("boot", y.boot(), Check.GONE);
        CHECK.dueIdle("off after a cut", y, () -> y.off() ? 1 : 0, 0);
        y.boot();
        y.factory(9, 20, 1);
        CHECK.dueIdle("off after factory", y, () -> y.off() ? 1 : 0, 0);
    }

    /** "A cut of the power, or booting, ends the patch, done or not." */
    private static void bootEndsThePatch() {
        SwapLoader open = Check.begun(20);
        open.feed(0x82, 1);
        open.boot();
        CHECK.dueStates("boot, not done", open, 1, 7, 0, 0);
        CHECK.dueBad("feed", open, () -> open.feed(0, 1));
        SwapLoader done = Check.patched();
        done.boot();
        CHECK.dueStates("boot, done", done, 1, 7, 0, 0);
        CHECK.dueBad("feed", done, () -> done.feed(0, 1));
        CHECK.due("the image stays", done.version(1), 8);
        SwapLoader off = Check.begun(20);
        off.feed(0x82, 1);
        off.off();
        CHECK.dueStates("off", off, 0, 0, 0, 0);
        off.boot();
        CHECK.dueBad("feed after off and boot", off, () -> off.feed(0, 1));
        off.begin(9, 20);
        CHECK.due("a new patch begins with a command", off.feed(0, 1), 5);
        CHECK.due("COPY 1", off.byteAt(100), off.byteAt(4));
    }
}
