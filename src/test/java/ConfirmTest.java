/** Promise 10: confirm. */
public final class ConfirmTest {
    private static final Check CHECK = new Check("ConfirmTest");

    public static void main(String[] args) {
        SwapLoader x = Check.tried();
        int[] want = Check.flash(x);
        int[] states = Check.states(x);
        want[Check.CONFIRMED] = 0;
        states[6]++;
        states[7]++;
        CHECK.due("confirm", x.confirm(), 1);
        CHECK.dueUnchanged("confirm", x, want, states);
        refused("confirmed already", x);
        CHECK.due("boot", x.boot(), 8);
        refused("not on trial any more", x);

        refused("no power", new SwapLoader());
        SwapLoader empty = new SwapLoader();
        empty.boot();
        refused("nothing runs", empty);
        refused("no request", Check.running());
        refused("not tried yet", Check.requested());
        SwapLoader off = Check.tried();
        off.off();
        refused("off", off);
        SwapLoader back = Check.tried();
        back.boot();
        refused("changed back", back);
        cut();
        CHECK.end();
    }

    private static void refused(String why, SwapLoader x) {
        int[] flash = Check.flash(x);
        int[] states = Check.states(x);
        CHECK.due(why + ": confirm", x.confirm(), Check.BAD);
        CHECK.dueUnchanged(why + ": confirm", x, flash, states);
    }

    private static void cut() {
        SwapLoader x = Check.tried();
        int[] flash = Check.flash(x);
        int[] states = Check.states(x);
        x.cut(0);
        CHECK.due("cut", x.confirm(), Check.GONE);
        CHECK.dueUnchanged("cut", x, flash, new int[] {0, 0, 0, 0, 18, 0, states[6], states[7]});
        CHECK.due("not confirmed", x.boot(), 7);
    }
}
