/**
 * "GONE = -2: The power went." Each call that may answer it, and what is so
 * after it: dueGone looks at the states, the cut and the calls that are refused
 * without power; the tests here at the flash, and at the boot that follows.
 */
public final class GoneTest {
    private static final Check CHECK = new Check("GoneTest");

    public static void main(String[] args) {
        begin();
        feed();
        request();
        confirm();
        boot();
        twoCuts();
        cutBeyondAll();
        CHECK.end();
    }

    /** Promise 7. */
    private static void begin() {
        SwapLoader x = Check.patched();
        int[] want = Check.flash(x);
        java.util.Arrays.fill(want, 96, 112, 255);
        CHECK.dueGone("begin", x, () -> x.begin(9, 20), 1);
        CHECK.dueFlash("begin", Check.flash(x), want);
        CHECK.due("version(0)", x.version(0), 7);
        CHECK.due("version(1)", x.version(1), 0);
        CHECK.due("boot", x.boot(), 7);
        CHECK.dueStates("boot", x, 1, 7, 0, 0);
        CHECK.dueBad("feed", x, () -> x.feed(0, 1));
        CHECK.due("begin", x.begin(9, 20), 4);
    }

    /** Promise 8: the bytes that were fed behind the cut are lost with the patch. */
    private static void feed() {
        SwapLoader x = Check.begun(20);
        int[] want = Check.flash(x);
        want[100] = 1;
        want[101] = 2;
        CHECK.dueGone("feed", x, () -> x.feed(0x3F_04_03_02_01_83L, 6), 2);
        CHECK.dueFlash("feed", Check.flash(x), want);
        CHECK.due("boot", x.boot(), 7);
        CHECK.dueStates("boot", x, 1, 7, 0, 0);
        CHECK.dueBad("feed", x, () -> x.feed(3, 1));
        CHECK.dueIdle("request", x, x::request, 0);
        CHECK.due("begin", x.begin(9, 20), 4);
        CHECK.due("erased", x.byteAt(100), 255);
        CHECK.due("a command first", x.feed(0, 1), 5);
    }

    /** Promise 9: nothing was asked for. */
    private static void request() {
        SwapLoader x = Check.patched();
        int[] flash = Check.flash(x);
        CHECK.dueGone("request", x, x::request, 0);
        CHECK.dueFlash("request", Check.flash(x), flash);
        CHECK.due("boot", x.boot(), 7);
        x.cut(1);
        CHECK.due("one operation is enough", x.request(), 1);
        CHECK.due("the power is there", x.state(0), 1);
        CHECK.due("none left", x.safe(), 0);
    }

    /** Promise 10: nothing was confirmed. */
    private static void confirm() {
        SwapLoader x = Check.tried();
        int[] flash = Check.flash(x);
        CHECK.dueGone("confirm", x, x::confirm, 0);
        CHECK.dueFlash("confirm", Check.flash(x), flash);
        CHECK.due("boot", x.boot(), 7);
        SwapLoader y = Check.tried();
        y.cut(1);
        CHECK.due("one operation is enough", y.confirm(), 1);
        CHECK.due("none left", y.safe(), 0);
        CHECK.due("boot", y.boot(), 8);
    }

    /** Promise 3: the boot goes on where it was. */
    private static void boot() {
        SwapLoader x = Check.requested();
        CHECK.dueGone("boot", x, x::boot, 0);
        CHECK.due("the REQUEST stays", x.byteAt(Check.LOG), 15);
        CHECK.dueGone("boot", x, x::boot, 25);
        CHECK.due("one step", x.state(4), 1);
        CHECK.due("MAIN is not VALID", x.version(0), 0);
        CHECK.dueGone("boot", x, x::boot, 25);
        CHECK.due("more steps", x.state(4), 2);
        CHECK.due("boot", x.boot(), 8);
        CHECK.dueStates("boot", x, 1, 8, 0, 0, 18, 0);
    }

    /** A cut that is set anew after GONE counts from then on. */
    private static void twoCuts() {
        SwapLoader x = Check.running();
        CHECK.dueGone("begin", x, () -> x.begin(9, 20), 3);
        x.cut(6);
        CHECK.due("boot makes no operation", x.boot(), 7);
        CHECK.due("begin", x.begin(9, 20), 4);
        CHECK.due("feed", x.feed(0, 1), Check.GONE);
    }

    /** Promise 5: the greatest cut is beyond a whole change, and is still counted. */
    private static void cutBeyondAll() {
        SwapLoader x = Check.requested();
        x.cut(1000);
        int before = x.state(6);
        CHECK.due("boot", x.boot(), 8);
        int forth = x.state(6) - before;
        CHECK.due("left", Check.cutLeft(x), 1000 - forth);
        CHECK.due("back", x.boot(), 7);
        int both = x.state(6) - before;
        CHECK.due("left", x.safe(), 1000 - both);
    }
}
