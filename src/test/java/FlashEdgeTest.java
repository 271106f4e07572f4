/** "THE FLASH" of the document, promises 1, 5, 6 and 11: a test for each sentence that names an edge. */
public final class FlashEdgeTest {
    private static final Check CHECK = new Check("FlashEdgeTest");

    public static void main(String[] args) {
        addresses();
        noneThere();
        newFlash();
        eraseIsOnePage();
        writeIsAnd();
        write255();
        cutNumbers();
        cutIsReplaced();
        cutFromNowOn();
        cutAtTheLastOperation();
        cutWithoutOperations();
        cutUntilItComes();
        safeAnswers();
        CHECK.end();
    }

    /** "THE FLASH has 15 PAGES of 16 bytes"; "Addresses are 0 .. 239." */
    private static void addresses() {
        SwapLoader x = Check.running();
        for (int a = 0; a < 240; a++) {
            Inside.put(x, a, a);
        }
        for (int a = 0; a < 240; a++) {
            CHECK.due("byteAt(" + a + ")", x.byteAt(a), a);
        }
    }

    /** "NoSuchElementException: there is none." */
    private static void noneThere() {
        SwapLoader x = Check.running();
        for (int a : new int[] {-1, 240, 241, 256, -240, Integer.MIN_VALUE, Integer.MAX_VALUE}) {
            int[] flash = Check.flash(x);
            int[] states = Check.states(x);
            CHECK.dueNoByte(x, a);
            CHECK.dueUnchanged("byteAt(" + a + ")", x, flash, states);
        }
        CHECK.dueNoByte(new SwapLoader(), 240);
        x.off();
        CHECK.dueNoByte(x, -1);
        CHECK.due("byteAt(239) without power", x.byteAt(239), 255);
    }

    /** "An erased flash, without power." */
    private static void newFlash() {
        SwapLoader x = new SwapLoader();
        for (int a = 0; a < 240; a++) {
            CHECK.due("new: byteAt(" + a + ")", x.byteAt(a), 255);
        }
        CHECK.dueStates("new", x, 0, 0, 0, 0, 0, 0, 0, 0);
        CHECK.dueIdle("new: off", x, () -> x.off() ? 1 : 0, 0);
        CHECK.dueIdle("new: safe", x, x::safe, -1);
        CHECK.dueBad("new: begin", x, () -> x.begin(1, 8));
        CHECK.dueBad("new: feed", x, () -> x.feed(0, 1));
        CHECK.dueBad("new: request", x, x::request);
        CHECK.dueBad("new: confirm", x, x::confirm);
    }

    /** "to ERASE a page (its bytes become 255)": its first and its last, and none beside it. */
    private static void eraseIsOnePage() {
        for (int k = 1; k < 6; k++) {
            SwapLoader x = Check.running();
            for (int a = 95; a <= 192; a++) {
                Inside.put(x, a, 0);
            }
            x.cut(k);
            x.begin(9, 20);
            CHECK.due("the byte before NEXT", x.byteAt(95), 0);
            CHECK.due("the first byte", x.byteAt(96), 255);
            CHECK.due("the last byte of page " + (5 + k), x.byteAt(95 + 16 * k), 255);
            CHECK.due("the first byte of page " + (6 + k), x.byteAt(96 + 16 * k), 0);
            CHECK.due("the byte behind NEXT", x.byteAt(192), 0);
        }
    }

    /** "it becomes what it was AND what is written (a written bit can't be set again)" */
    private static void writeIsAnd() {
        SwapLoader x = Check.begun(20);
        Inside.put(x, 100, 0x0F, 0, 255);
        CHECK.due("ADD 3", x.feed(0xA5_FF_F5_82L, 4), 7);
        CHECK.due("15 AND 245", x.byteAt(100), 5);
        CHECK.due("0 AND 255", x.byteAt(101), 0);
        CHECK.due("255 AND 165", x.byteAt(102), 165);
    }

    /** A write of 255 changes no byte, but it is an operation. */
    private static void write255() {
        SwapLoader x = Check.begun(20);
        CHECK.due("ADD 255", x.feed(0xFF80, 2), 5);
        CHECK.dueStates("ADD 255", x, 1, 7, 5, 4, 0, 0, 7, 1);
        x.cut(0);
        CHECK.due("ADD 255, cut", x.feed(0xFF80, 2), Check.GONE);
    }

    /** "False when k is not 0 .. 1000." */
    private static void cutNumbers() {
        SwapLoader x = Check.running();
        for (int k : new int[] {0, 1, 999, 1000}) {
            CHECK.due("cut(" + k + ")", x.cut(k), true);
            CHECK.due("left of " + k, Check.cutLeft(x), k);
            for (int wrong : new int[] {-1, -2, 1001, Integer.MIN_VALUE, Integer.MAX_VALUE}) {
                CHECK.dueIdle("cut(" + wrong + ")", x, () -> x.cut(wrong) ? 1 : 0, 0);
            }
        }
        x.safe();
        CHECK.dueIdle("cut(-1) when none is set", x, () -> x.cut(-1) ? 1 : 0, 0);
        CHECK.dueIdle("cut(1001) when none is set", x, () -> x.cut(1001) ? 1 : 0, 0);
        CHECK.due("cut(5) without power", new SwapLoader().cut(5), true);
    }

    /** "in place of one that is set": a larger one, and a smaller one. */
    private static void cutIsReplaced() {
        SwapLoader x = Check.running();
        x.cut(2);
        x.cut(6);
        CHECK.due("begin of 6 operations", x.begin(9, 20), 4);
        x.cut(1000);
        x.cut(5);
        CHECK.due("begin cut after 5", x.begin(9, 20), Check.GONE);
    }

    /** "from now on": what was done before does not count. */
    private static void cutFromNowOn() {
        SwapLoader x = Check.begun(20);
        x.cut(3);
        CHECK.due("three more", x.feed(2, 1), 7);
        CHECK.due("none is left", Check.cutLeft(x), 0);
        x.cut(3);
        CHECK.due("three from now on", x.feed(2, 1), 10);
        CHECK.due("power", x.state(0), 1);
    }

    /** "as soon as k operations were done and one more would be done (which is not)" */
    private static void cutAtTheLastOperation() {
        SwapLoader x = Check.running();
        x.cut(6);
        CHECK.due("begin is 6 operations", x.begin(9, 20), 4);
        CHECK.dueStates("the power is still there", x, 1, 7, 4, 4, 0, 0, 6, 0);
        CHECK.due("a seventh", x.feed(0, 1), Check.GONE);
        CHECK.due("is not done", x.byteAt(100), 255);
        CHECK.due("nor counted", x.state(6), 6);
        SwapLoader y = Check.patched();
        y.cut(5);
        CHECK.due("begin cut after 5", y.begin(9, 20), Check.GONE);
        SwapLoader z = Check.patched();
        int[] flash = Check.flash(z);
        CHECK.dueGone("begin cut after 0", z, () -> z.begin(9, 20), 0);
        CHECK.dueFlash("begin cut after 0", Check.flash(z), flash);
    }

    /** Calls without an operation never meet the cut: nothing "more would be done". */
    private static void cutWithoutOperations() {
        SwapLoader x = Check.begun(20);
        x.cut(0);
        CHECK.due("SEEK", x.feed(0x3040, 2), 4);
        CHECK.due("its place", x.state(3), 0x30);
        CHECK.due("ADD without its bytes", x.feed(0x82, 1), 4);
        CHECK.dueIdle("request of what is not VALID", x, x::request, 0);
        CHECK.dueIdle("version", x, () -> x.version(1), 0);
        CHECK.dueBad("confirm", x, x::confirm);
        CHECK.dueBad("feed of 9", x, () -> x.feed(0, 9));
        CHECK.due("boot without a log", x.boot(), 7);
        CHECK.due("off", x.off(), true);
        CHECK.due("boot again", x.boot(), 7);
        CHECK.due("the cut is still set", x.safe(), 0);
    }

    /** "A cut that was set is over when the power goes by it"; "(a cut that is set stays)" when it goes by off. */
    private static void cutUntilItComes() {
        SwapLoader x = Check.requested();
        x.cut(2);
        CHECK.due("off", x.off(), true);
        CHECK.due("it stays", Check.cutLeft(x), 2);
        CHECK.dueIdle("off again", x, () -> x.off() ? 1 : 0, 0);
        CHECK.due("boot", x.boot(), Check.GONE);
        CHECK.due("it is over", x.safe(), -1);
        CHECK.due("boot", x.boot(), 8);
        CHECK.due("boot", x.boot(), 7);
    }

    /** "how many operations were left; -1 when none was set", and "No cut is set any more". */
    private static void safeAnswers() {
        SwapLoader x = Check.running();
        CHECK.dueIdle("none set", x, x::safe, -1);
        x.cut(7);
        x.begin(9, 20);
        CHECK.due("one left", x.safe(), 1);
        CHECK.due("none any more", x.safe(), -1);
        CHECK.due("no cut comes", x.feed(63, 1), 20);
        x.cut(1000);
        CHECK.due("1000 left", x.safe(), 1000);
        x.cut(0);
        CHECK.due("0 left", x.safe(), 0);
        CHECK.due("no cut comes", x.begin(9, 20), 4);
    }
}
