/** "A PATCH" of the document, promises 7 and 8: a test for each sentence that names an edge. */
public final class PatchEdgeTest {
    private static final Check CHECK = new Check("PatchEdgeTest");

    public static void main(String[] args) {
        beginNumbers();
        pagesAreErasedAscending();
        beginInPlaceOfAnother();
        beginCutInAPatch();
        commands();
        copyAtMostWhatIsLeft();
        addAtMostWhatIsLeft();
        differAtMostWhatIsLeft();
        seekTakesOneByte();
        placeAtFirst();
        placeGrows();
        placeBehindTheImage();
        placeBehindTheLength();
        differWrapsAround();
        writtenAtOnce();
        cutInACommand();
        headInOrder();
        doneAtTheLastByte();
        shortestAndLongest();
        fedWhenDone();
        howManyBytes();
        lowestFirst();
        behindTheLastByte();
        CHECK.end();
    }

    /** "or version or length are not as said": the numbers just inside; RefusedTest has those outside. */
    private static void beginNumbers() {
        int[][] right = {{1, 8}, {1, 96}, {250, 8}, {250, 96}};
        for (int[] r : right) {
            SwapLoader x = Check.running();
            CHECK.due("begin(" + r[0] + ", " + r[1] + ")", x.begin(r[0], r[1]), 4);
            CHECK.dueStates("begin", x, 1, 7, 4, 4, 0, 0, 6, 0);
            CHECK.due("all of it", Check.feedAll(x, r[1] == 8 ? new int[] {63} : new int[] {63, 63}), r[1]);
            CHECK.due("version(1)", x.version(1), r[0]);
            CHECK.due("the length", x.byteAt(98), r[1]);
        }
    }

    /** "the pages of NEXT are erased, ascending" */
    private static void pagesAreErasedAscending() {
        for (int k = 0; k < 6; k++) {
            SwapLoader x = Check.running();
            for (int a = 96; a < 192; a++) {
                Inside.put(x, a, 3);
            }
            int[] want = Check.flash(x);
            java.util.Arrays.fill(want, 96, 96 + 16 * k, 255);
            CHECK.dueGone("begin cut after " + k, x, () -> x.begin(9, 20), k);
            CHECK.dueFlash("begin cut after " + k, Check.flash(x), want);
            CHECK.due("boot", x.boot(), 7);
            CHECK.dueBad("no patch", x, () -> x.feed(0, 1));
        }
    }

    /** "in place of one there is": also of one that waits for bytes, and of one that is DONE. */
    private static void beginInPlaceOfAnother() {
        int[][] fed = {{64}, {64, 50}, {191, 1}, {255, 1}, {63}};
        for (int[] f : fed) {
            SwapLoader x = Check.begun(20);
            Check.feedAll(x, f);
            CHECK.due("begin", x.begin(10, 9), 4);
            CHECK.dueStates("begin", x, 1, 7, 4, 4);
            for (int a = 96; a < 192; a++) {
                CHECK.due("erased " + a, x.byteAt(a), 255);
            }
            CHECK.due("its first byte fed is a command", x.feed(1, 1), 6);
            CHECK.due("from place 4 on", x.byteAt(100), x.byteAt(4));
            CHECK.due("up to its length", x.feed(63, 1), 9);
            CHECK.due("its version", x.version(1), 10);
        }
    }

    /** "GONE" in place of another: the other one is ended, too. */
    private static void beginCutInAPatch() {
        SwapLoader x = Check.begun(20);
        x.feed(3, 1);
        CHECK.dueGone("begin", x, () -> x.begin(9, 20), 0);
        CHECK.due("what was made stays", x.byteAt(100), x.byteAt(4));
        SwapLoader done = Check.patched();
        CHECK.dueGone("begin", done, () -> done.begin(9, 20), 0);
        CHECK.due("the image stays", done.version(1), 8);
    }

    /** "0 .. 63 COPY", "64 .. 127 SEEK", "128 .. 191 ADD", "192 .. 255 DIFFER", "n = c % 64 + 1" */
    private static void commands() {
        int[] first = {0, 64, 128, 192};
        for (int kind = 0; kind < 4; kind++) {
            for (int n : new int[] {1, 2, 63, 64}) {
                int command = first[kind] + n - 1;
                String name = "command " + command;
                SwapLoader x = Check.begun(96);
                CHECK.due(name, x.feed(command, 1), kind == 0 ? 4 + n : 4);
                int takes = kind == 0 ? 0 : kind == 1 ? 1 : n;
                for (int i = 0; i < takes; i++) {
                    CHECK.due(name + " takes a byte", x.feed(10, 1), kind == 1 ? 4 : 5 + i);
                }
                int made = kind == 1 ? 0 : n;
                int place = kind == 1 ? 10 : kind == 2 ? 4 : 4 + n;
                CHECK.dueStates(name, x, 1, 7, 4 + made, place, 0, 0, 6 + made, made);
                for (int i = 4; i < 4 + made; i++) {
                    int old = kind == 2 ? 0 : x.byteAt(i);
                    CHECK.due(name + ": byte " + i, x.byteAt(96 + i), (old + (kind == 0 ? 0 : 10)) % 256);
                }
                CHECK.due("a command behind " + name, x.feed(0, 1), 5 + made);
            }
        }
    }

    /** "(as many as are still to be made at most)": as many, one more, one fewer. */
    private static void copyAtMostWhatIsLeft() {
        for (int n = 5; n <= 7; n++) {
            SwapLoader x = Check.begun(10);
            CHECK.due("COPY " + n + " of 6", x.feed(n - 1, 1), Math.min(4 + n, 10));
            CHECK.due("DONE", x.version(1), n < 6 ? 0 : 8);
            CHECK.due("place", x.state(3), Math.min(4 + n, 10));
            CHECK.due("behind the length", x.byteAt(106), 255);
            CHECK.due("writes", x.state(7), n < 6 ? 5 : 6 + 4);
        }
    }

    /** The same of ADD: the byte behind its last one is a command again. */
    private static void addAtMostWhatIsLeft() {
        for (int n = 5; n <= 7; n++) {
            SwapLoader x = Check.begun(10);
            CHECK.due("ADD " + n + " of 6", x.feed(128 + n - 1, 1), 4);
            CHECK.due("five", x.feed(0x0504030201L, 5), 9);
            CHECK.due("not DONE", x.version(1), 0);
            CHECK.due("one more", x.feed(0, 1), 10);
            CHECK.due("added, or copied by a command", x.byteAt(105), n == 5 ? x.byteAt(4) : 0);
            CHECK.due("DONE", x.version(1), 8);
        }
    }

    /** The same of DIFFER. */
    private static void differAtMostWhatIsLeft() {
        for (int n = 5; n <= 7; n++) {
            SwapLoader x = Check.begun(10);
            CHECK.due("DIFFER " + n + " of 6", x.feed(192 + n - 1, 1), 4);
            CHECK.due("five", x.feed(0x0504030201L, 5), 9);
            CHECK.due("not DONE", x.version(1), 0);
            CHECK.due("one more", x.feed(n == 5 ? 0 : 1, 1), 10);
            CHECK.due("differing, or copied by a command", x.byteAt(105), (x.byteAt(9) + (n == 5 ? 0 : 1)) % 256);
            CHECK.due("place", x.state(3), 10);
            CHECK.due("DONE", x.version(1), 8);
        }
    }

    /** "SEEK: the place is the next byte fed", in the same feed or a later one, 0 and 255, too. */
    private static void seekTakesOneByte() {
        for (int place : new int[] {0, 63, 64, 128, 192, 255}) {
            SwapLoader x = Check.begun(20);
            CHECK.due("SEEK", x.feed(place << 8 | 64, 2), 4);
            CHECK.dueStates("SEEK " + place, x, 1, 7, 4, place, 0, 0, 6, 0);
            SwapLoader y = Check.begun(20);
            y.feed(127, 1);
            CHECK.due("not there yet", y.state(3), 4);
            y.feed(place, 1);
            CHECK.dueStates("SEEK " + place + " in two", y, 1, 7, 4, place, 0, 0, 6, 0);
        }
        SwapLoader twice = Check.begun(20);
        twice.feed(0x06_40_05_40L, 4);
        CHECK.due("the later SEEK", twice.state(3), 6);
    }

    /** "The place is 4 at first" */
    private static void placeAtFirst() {
        SwapLoader x = Check.begun(20);
        CHECK.due("place", x.state(3), 4);
        x.feed(0, 1);
        CHECK.due("MAIN's byte 4", x.byteAt(100), x.byteAt(4));
        SwapLoader y = Check.begun(20);
        y.feed(0x01C0, 2);
        CHECK.due("MAIN's byte 4 and 1", y.byteAt(100), (y.byteAt(4) + 1) % 256);
    }

    /** "and grows by 1 with each byte that COPY or DIFFER takes": not with those of ADD. */
    private static void placeGrows() {
        SwapLoader x = Check.begun(20);
        x.feed(2, 1);
        CHECK.due("COPY 3", x.state(3), 7);
        x.feed(0x82, 1);
        x.feed(0x030201, 3);
        CHECK.due("ADD 3", x.state(3), 7);
        x.feed(0xC1, 1);
        CHECK.due("DIFFER 2, before its bytes", x.state(3), 7);
        x.feed(0, 1);
        CHECK.due("its first byte", x.state(3), 8);
        x.feed(0, 1);
        CHECK.due("its second byte", x.state(3), 9);
        CHECK.due("MAIN's byte 8", x.byteAt(96 + 11), x.byteAt(8));
    }

    /** "(bytes at 96 and more are 0)": 95 is MAIN's last, and the place grows past 255. */
    private static void placeBehindTheImage() {
        SwapLoader x = Check.begun(20);
        Inside.put(x, 94, 17, 18);
        CHECK.due("SEEK 94, COPY 3", x.feed(0x025E40, 3), 7);
        CHECK.due("at 94", x.byteAt(100), 17);
        CHECK.due("at 95", x.byteAt(101), 18);
        CHECK.due("at 96", x.byteAt(102), 0);
        CHECK.due("SEEK 95, DIFFER 2", x.feed(0x09_09_C1_5F_40L, 5), 9);
        CHECK.due("at 95", x.byteAt(103), 27);
        CHECK.due("at 96", x.byteAt(104), 9);
        CHECK.due("SEEK 255, COPY 2", x.feed(0x01FF40, 3), 11);
        CHECK.due("at 255", x.byteAt(105), 0);
        CHECK.due("at 256", x.byteAt(106), 0);
        CHECK.due("place", x.state(3), 257);
    }

    /** Below 96 the bytes are those of the page, behind MAIN's length, too. */
    private static void placeBehindTheLength() {
        SwapLoader x = new SwapLoader();
        x.factory(7, 8, 0);
        x.boot();
        x.begin(8, 20);
        CHECK.due("SEEK 7, COPY 2", x.feed(0x010740, 3), 6);
        CHECK.due("at 7", x.byteAt(100), x.byteAt(7));
        CHECK.due("at 8", x.byteAt(101), 255);
        CHECK.due("SEEK 95, COPY 2", x.feed(0x015F40, 3), 8);
        CHECK.due("at 95", x.byteAt(102), 255);
        CHECK.due("at 96", x.byteAt(103), 0);
        CHECK.due("SEEK 8, DIFFER 1", x.feed(0x02C00840, 4), 9);
        CHECK.due("255 and 2", x.byteAt(104), 1);
    }

    /** "each plus (mod 256) MAIN's byte at the place" */
    private static void differWrapsAround() {
        int[][] sums = {{255, 1, 0}, {255, 255, 254}, {254, 1, 255}, {0, 0, 0}, {128, 128, 0}, {0, 255, 255}};
        for (int[] s : sums) {
            SwapLoader x = Check.begun(20);
            Inside.put(x, 4, s[0]);
            CHECK.due("DIFFER", x.feed(s[1] << 8 | 0xC0, 2), 5);
            CHECK.due(s[0] + " and " + s[1], x.byteAt(100), s[2]);
        }
    }

    /** "Each byte made is written at once (255, too)." */
    private static void writtenAtOnce() {
        SwapLoader x = Check.begun(20);
        x.feed(0x83, 1);
        int[] added = {1, 255, 0, 9};
        for (int i = 0; i < 4; i++) {
            CHECK.due("add " + added[i], x.feed(added[i], 1), 5 + i);
            CHECK.due("there", x.byteAt(100 + i), added[i]);
            CHECK.due("written", x.state(7), i + 1);
        }
        Inside.put(x, 4, 255, 254);
        x.feed(0, 1);
        CHECK.due("a copied 255 is written", x.state(7), 5);
        x.feed(0x01C0, 2);
        CHECK.due("a differing 255 is written", x.state(7), 6);
        CHECK.due("no other operation", x.state(6), 12);
    }

    /** A cut in the midst of COPY, ADD and DIFFER: what was made before it stays. */
    private static void cutInACommand() {
        long[] fed = {3, 0x04_03_02_01_83L, 0x04_03_02_01_C3L};
        for (long bytes : fed) {
            SwapLoader whole = Check.begun(20);
            CHECK.due("whole", whole.feed(bytes, bytes == 3 ? 1 : 5), 8);
            for (int k = 0; k < 4; k++) {
                SwapLoader x = Check.begun(20);
                int[] want = Check.flash(x);
                System.arraycopy(Check.flash(whole), 100, want, 100, k);
                CHECK.dueGone("feed cut after " + k, x, () -> x.feed(bytes, bytes == 3 ? 1 : 5), k);
                CHECK.dueFlash("feed cut after " + k, Check.flash(x), want);
                CHECK.due("writes", x.state(7), k);
                CHECK.due("boot", x.boot(), 7);
                CHECK.dueIdle("request", x, x::request, 0);
            }
        }
    }

    /** "When all are made, the sum, the length, the version and 165 are written, in this order" */
    private static void headInOrder() {
        int[] order = {103, 99, 98, 97, 96};
        SwapLoader whole = Check.begun(8);
        whole.feed(2, 1);
        CHECK.due("whole", whole.feed(0, 1), 8);
        for (int k = 0; k < 5; k++) {
            SwapLoader x = Check.begun(8);
            x.feed(2, 1);
            int[] want = Check.flash(x);
            for (int i = 0; i < k; i++) {
                want[order[i]] = whole.byteAt(order[i]);
            }
            CHECK.dueGone("the last byte cut after " + k, x, () -> x.feed(0, 1), k);
            CHECK.dueFlash("the last byte cut after " + k, Check.flash(x), want);
            CHECK.due("not VALID", x.version(1), 0);
            CHECK.due("boot", x.boot(), 7);
            CHECK.dueBad("no patch", x, () -> x.feed(0, 1));
            CHECK.dueIdle("request", x, x::request, 0);
        }
        SwapLoader y = Check.begun(8);
        y.feed(2, 1);
        y.cut(5);
        CHECK.due("five operations are enough", y.feed(0, 1), 8);
        CHECK.due("VALID", y.version(1), 8);
        CHECK.dueStates("the power is there", y, 1, 7, 8, 8, 0, 0, 14, 8);
    }

    /** "the next byte to be made (the length when it is DONE)" */
    private static void doneAtTheLastByte() {
        SwapLoader x = Check.begun(9);
        CHECK.due("one is to be made", x.feed(3, 1), 8);
        CHECK.dueStates("one is to be made", x, 1, 7, 8, 8, 0, 0, 10, 4);
        CHECK.due("NEXT", x.version(1), 0);
        CHECK.due("a SEEK makes nothing", x.feed(0x0440, 2), 8);
        CHECK.due("the last", x.feed(0, 1), 9);
        CHECK.dueStates("the last", x, 1, 7, 9, 5, 0, 0, 15, 9);
        CHECK.due("NEXT", x.version(1), 8);
    }

    /** "up to its length": 8 is four bytes, 96 goes to the last byte of NEXT. */
    private static void shortestAndLongest() {
        SwapLoader x = Check.begun(8);
        CHECK.due("four bytes", x.feed(3, 1), 8);
        CHECK.due("the byte behind it", x.byteAt(104), 255);
        SwapLoader y = Check.begun(96);
        Inside.put(y, 192, 170);
        CHECK.due("64 bytes", y.feed(63, 1), 68);
        CHECK.due("all but one", y.feed(26, 1), 95);
        CHECK.due("all", y.feed(63, 1), 96);
        CHECK.due("the last byte of NEXT", y.byteAt(191), y.byteAt(95));
        CHECK.due("the byte behind it", y.byteAt(192), 170);
        CHECK.due("VALID", y.version(1), 8);
    }

    /** "What is fed then is refused." */
    private static void fedWhenDone() {
        SwapLoader x = Check.begun(20);
        CHECK.due("DONE", x.feed(63, 1), 20);
        x.cut(0);
        CHECK.dueBad("COPY", x, () -> x.feed(0, 1));
        CHECK.dueBad("SEEK", x, () -> x.feed(0x3040, 2));
        CHECK.dueBad("ADD", x, () -> x.feed(0x0180, 8));
        CHECK.dueBad("feed of 0", x, () -> x.feed(0, 0));
        CHECK.due("the cut is met by nothing", x.safe(), 0);
        CHECK.due("request", x.request(), 1);
        CHECK.dueBad("and when the change is asked for", x, () -> x.feed(0, 1));
    }

    /** "or n is not 1 .. 8": and the command that waits for its bytes goes on. */
    private static void howManyBytes() {
        for (int n = 1; n <= 8; n++) {
            SwapLoader x = Check.begun(96);
            CHECK.due("n = " + n, x.feed(0, n), 4 + n);
        }
        for (int n : new int[] {0, 9, -1, 16, 256 + 1, Integer.MIN_VALUE, Integer.MIN_VALUE + 1, Integer.MAX_VALUE}) {
            SwapLoader x = Check.begun(96);
            CHECK.dueBad("feed of " + n, x, () -> x.feed(0, n));
            x.feed(0x81, 1);
            CHECK.dueBad("feed of " + n + " in ADD", x, () -> x.feed(0, n));
            CHECK.due("ADD goes on", x.feed(0x4030, 2), 6);
            CHECK.due("first", x.byteAt(100), 0x30);
            CHECK.due("second", x.byteAt(101), 0x40);
            x.feed(0x40, 1);
            CHECK.dueBad("feed of " + n + " in SEEK", x, () -> x.feed(0, n));
            x.feed(0x21, 1);
            CHECK.due("SEEK goes on", x.state(3), 0x21);
        }
    }

    /** "The n lowest bytes of a number are fed to the patch, the lowest first" */
    private static void lowestFirst() {
        long bytes = 0x87_06_85_04_83_02_81_BFL;
        int[] added = {0x81, 2, 0x83, 4, 0x85, 6, 0x87};
        for (int n = 1; n <= 8; n++) {
            SwapLoader x = Check.begun(96);
            CHECK.due("n = " + n, x.feed(bytes, n), 3 + n);
            for (int i = 0; i < 7; i++) {
                CHECK.due("n = " + n + ": byte " + i, x.byteAt(100 + i), i < n - 1 ? added[i] : 255);
            }
        }
        SwapLoader x = Check.begun(96);
        CHECK.due("-1 is eight times 255", x.feed(-1L, 8), 11);
        CHECK.due("DIFFER by 255", x.byteAt(106), (x.byteAt(10) + 255) % 256);
        SwapLoader y = Check.begun(96);
        CHECK.due("the least number", y.feed(Long.MIN_VALUE, 8), 11);
        CHECK.due("its last byte is 128: ADD 1", y.feed(7, 1), 12);
        CHECK.due("7", y.byteAt(107), 7);
    }

    /** "(Bytes behind the one by which it is DONE are passed over.)" */
    private static void behindTheLastByte() {
        SwapLoader x = Check.begun(8);
        CHECK.due("COPY 64, SEEK 48, ADD 1", x.feed(0x01_80_30_40_3FL, 5), 8);
        CHECK.dueStates("passed over", x, 1, 7, 8, 8, 0, 0, 6 + 8, 8);
        SwapLoader y = Check.begun(8);
        CHECK.due("ADD 64, and a byte too many", y.feed(0x09_04_03_02_01_BFL, 6), 8);
        CHECK.due("the last", y.byteAt(103), 4);
        CHECK.due("behind it", y.byteAt(104), 255);
        SwapLoader z = Check.begun(8);
        z.cut(8);
        CHECK.due("no operation behind it", z.feed(0x3F3F, 2), 8);
        CHECK.due("none left", z.safe(), 0);
    }
}
