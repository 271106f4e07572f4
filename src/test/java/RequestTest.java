/** Promise 9: request. */
public final class RequestTest {
    private static final Check CHECK = new Check("RequestTest");

    public static void main(String[] args) {
        asked();
        nextNotValid();
        refused("no power", new SwapLoader());
        SwapLoader empty = new SwapLoader();
        empty.boot();
        refused("nothing runs", empty);
        SwapLoader off = Check.patched();
        off.off();
        refused("off", off);
        refused("asked already", Check.requested());
        refused("on trial", Check.tried());
        SwapLoader confirmed = Check.tried();
        confirmed.confirm();
        refused("confirmed", confirmed);
        confirmed.boot();
        CHECK.due("back to the old one", confirmed.request(), 1);
        CHECK.due("boot", confirmed.boot(), 7);
        cut();
        CHECK.end();
    }

    private static void asked() {
        SwapLoader x = Check.patched();
        int[] want = Check.flash(x);
        int[] states = Check.states(x);
        want[Check.LOG] = 15;
        states[6]++;
        states[7]++;
        CHECK.due("request", x.request(), 1);
        CHECK.dueUnchanged("request", x, want, states);
        SwapLoader y = Check.patched();
        y.boot();
        CHECK.due("request after another boot", y.request(), 1);
    }

    private static void nextNotValid() {
        SwapLoader x = Check.running();
        int[] flash = Check.flash(x);
        int[] states = Check.states(x);
        CHECK.due("NEXT is erased", x.request(), 0);
        CHECK.dueUnchanged("request", x, flash, states);
        x.begin(9, 20);
        x.feed(0, 1);
        CHECK.due("a patch under way", x.request(), 0);
        CHECK.due("it stays", x.feed(0, 1), 6);
    }

    private static void refused(String why, SwapLoader x) {
        int[] flash = Check.flash(x);
        int[] states = Check.states(x);
        CHECK.due(why + ": request", x.request(), Check.BAD);
        CHECK.dueUnchanged(why + ": request", x, flash, states);
    }

    private static void cut() {
        SwapLoader x = Check.patched();
        int[] flash = Check.flash(x);
        int[] states = Check.states(x);
        x.cut(0);
        CHECK.due("cut", x.request(), Check.GONE);
        CHECK.dueUnchanged("cut", x, flash, new int[] {0, 0, 0, 0, 0, 0, states[6], states[7]});
        CHECK.due("boot", x.boot(), 7);
        CHECK.due("request", x.request(), 1);
    }
}
