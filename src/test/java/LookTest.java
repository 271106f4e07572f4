/** Promises 11, 12 and 13: byteAt, version, state. */
public final class LookTest {
    private static final Check CHECK = new Check("LookTest");

    public static void main(String[] args) {
        SwapLoader x = Check.running();
        CHECK.due("byteAt(0)", x.byteAt(0), 165);
        CHECK.due("byteAt(239)", x.byteAt(239), 255);
        for (int address : new int[] {-1, 240, Integer.MIN_VALUE, Integer.MAX_VALUE}) {
            CHECK.dueNoByte(x, address);
        }
        x.off();
        CHECK.due("byteAt without power", x.byteAt(1), 7);

        CHECK.due("version(0) without power", x.version(0), 7);
        CHECK.due("version(1) of an erased NEXT", x.version(1), 0);
        for (int which : new int[] {-1, 2, Integer.MIN_VALUE, Integer.MAX_VALUE}) {
            CHECK.due("version(" + which + ")", x.version(which), Check.BAD);
        }
        CHECK.due("version(1) of a patch", Check.patched().version(1), 8);
        CHECK.due("version(0) on trial", Check.tried().version(0), 8);
        CHECK.due("version(1) on trial", Check.tried().version(1), 7);
        halfChanged();

        for (int what : new int[] {-1, 8, Integer.MIN_VALUE, Integer.MAX_VALUE}) {
            CHECK.due("state(" + what + ")", x.state(what), Check.BAD);
        }
        SwapLoader y = Check.running();
        y.begin(9, 20);
        y.feed(0x015040, 3);
        CHECK.dueStates("in a patch", y, 1, 7, 6, 82, 0, 0, 8, 2);
        SwapLoader z = Check.tried();
        CHECK.due("steps of page 13", z.state(4), 18);
        z.cut(60);
        z.boot();
        CHECK.due("steps of page 13", z.state(4), 18);
        CHECK.due("steps of page 14", z.state(5), 3);
        CHECK.due("PROGRESS of page 14", z.byteAt(Check.BACK_LOG + 4), 248);
        CHECK.end();
    }

    /** A page of the one image and the others of the other are no VALID image. */
    private static void halfChanged() {
        SwapLoader x = Check.requested();
        x.cut(40);
        CHECK.due("boot", x.boot(), Check.GONE);
        CHECK.due("two steps", x.state(4), 2);
        CHECK.due("version(0)", x.version(0), 0);
        CHECK.due("state(1)", x.state(1), 0);
    }
}
