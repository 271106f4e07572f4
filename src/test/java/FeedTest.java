/** Promise 8: feed, by every command of a patch. */
public final class FeedTest {
    private static final Check CHECK = new Check("FeedTest");

    public static void main(String[] args) {
        copy();
        seek();
        add();
        differ();
        places();
        behindTheImage();
        lengthBoundsCommands();
        bytesInOrder();
        done();
        refused();
        cutInPatch();
        CHECK.end();
    }

    private static void copy() {
        SwapLoader x = Check.begun(96);
        CHECK.due("COPY 1", x.feed(0, 1), 5);
        CHECK.due("COPY 64", x.feed(63, 1), 69);
        CHECK.due("place", x.state(3), 69);
        for (int i = 4; i < 69; i++) {
            CHECK.due("copied " + i, x.byteAt(96 + i), x.byteAt(i));
        }
        CHECK.due("writes", x.state(7), 65);
    }

    private static void seek() {
        SwapLoader x = Check.begun(96);
        CHECK.due("SEEK", x.feed(64, 1), 4);
        CHECK.due("the place is not there yet", x.state(3), 4);
        CHECK.due("the place", x.feed(0, 1), 4);
        CHECK.due("place", x.state(3), 0);
        CHECK.due("COPY 2", x.feed(1, 1), 6);
        CHECK.due("MAIN's byte 0", x.byteAt(100), 165);
        CHECK.due("MAIN's byte 1", x.byteAt(101), 7);
        CHECK.due("another SEEK", x.feed(0xFF7F, 2), 6);
        CHECK.due("place", x.state(3), 255);
        CHECK.due("no operations", x.state(6), 6 + 2);
    }

    private static void add() {
        SwapLoader x = Check.begun(96);
        CHECK.due("ADD 3", x.feed(130, 1), 4);
        CHECK.due("a byte that looks like COPY", x.feed(5, 1), 5);
        CHECK.due("and like SEEK, and 255", x.feed(0xFF40, 2), 7);
        CHECK.due("added", x.byteAt(100), 5);
        CHECK.due("added", x.byteAt(101), 64);
        CHECK.due("255 is written, too", x.state(7), 3);
        CHECK.due("place", x.state(3), 4);
        CHECK.due("a command again", x.feed(0, 1), 8);
        CHECK.due("ADD 1", x.feed(0x0980, 2), 9);
        CHECK.due("added", x.byteAt(96 + 8), 9);
        CHECK.due("ADD 64", x.feed(191, 1), 9);
        for (int i = 0; i < 64; i++) {
            CHECK.due("add " + i, x.feed(i, 1), 10 + i);
        }
        CHECK.due("a command again", x.feed(64, 1), 73);
    }

    private static void differ() {
        SwapLoader x = Check.begun(96);
        CHECK.due("SEEK 20, DIFFER 2", x.feed(0xC11440, 3), 4);
        CHECK.due("place", x.state(3), 20);
        CHECK.due("differences", x.feed(0xFF01, 2), 6);
        CHECK.due("plus 1", x.byteAt(100), (x.byteAt(20) + 1) % 256);
        CHECK.due("plus 255", x.byteAt(101), (x.byteAt(21) + 255) % 256);
        CHECK.due("place", x.state(3), 22);
        CHECK.due("COPY 1 goes on", x.feed(0, 1), 7);
        CHECK.due("copied", x.byteAt(102), x.byteAt(22));
        CHECK.due("DIFFER 64", x.feed(255, 1), 7);
        CHECK.due("eight of it", x.feed(-1L, 8), 15);
        CHECK.due("place", x.state(3), 31);
    }

    private static void places() {
        SwapLoader x = Check.begun(96);
        CHECK.due("SEEK 94, COPY 4", x.feed(0x035E40, 3), 8);
        CHECK.due("byte 94", x.byteAt(100), x.byteAt(94));
        CHECK.due("byte 95", x.byteAt(101), x.byteAt(95));
        CHECK.due("byte 96 is 0", x.byteAt(102), 0);
        CHECK.due("byte 97 is 0", x.byteAt(103), 0);
        CHECK.due("SEEK 255, DIFFER 1", x.feed(0x09C0FF40L, 4), 9);
        CHECK.due("0 plus 9", x.byteAt(104), 9);
        CHECK.due("the place grows past 255", x.state(3), 256);
        CHECK.due("COPY 64", x.feed(63, 1), 73);
        CHECK.due("place", x.state(3), 320);
        CHECK.due("0 behind 255", x.byteAt(96 + 9), 0);
    }

    /** Bytes of the six pages behind MAIN's length are taken as they lie there. */
    private static void behindTheImage() {
        SwapLoader x = new SwapLoader();
        x.factory(7, 40, 99);
        x.boot();
        x.begin(8, 12);
        CHECK.due("SEEK 39, COPY 2", x.feed(0x012740, 3), 6);
        CHECK.due("byte 39", x.byteAt(100), 128);
        CHECK.due("byte 40", x.byteAt(101), 255);
    }

    private static void lengthBoundsCommands() {
        SwapLoader x = Check.begun(10);
        CHECK.due("COPY 64 of 6", x.feed(63, 1), 10);
        CHECK.due("place", x.state(3), 10);
        CHECK.due("behind it", x.byteAt(96 + 10), 255);
        SwapLoader y = Check.begun(8);
        CHECK.due("ADD 64 of 4", y.feed(0x04030201BFL, 5), 8);
        CHECK.due("DONE", y.version(1), 8);
        SwapLoader z = Check.begun(8);
        CHECK.due("DIFFER 64 of 4", z.feed(0xFFL, 5), 8);
        CHECK.due("DONE", z.version(1), 8);
        CHECK.due("place", z.state(3), 8);
    }

    private static void bytesInOrder() {
        SwapLoader x = Check.begun(96);
        CHECK.due("the n lowest only", x.feed(0x99030201_00000040L, 1), 4);
        CHECK.due("the place", x.feed(0xFFFFFF_00000010L, 1), 4);
        CHECK.due("place", x.state(3), 16);
        CHECK.due("eight, the lowest first", x.feed(0x80010A82_03020182L, 8), 10);
        int[] want = {1, 2, 3, 10, 1, 128};
        for (int i = 0; i < want.length; i++) {
            CHECK.due("byte " + i, x.byteAt(100 + i), want[i]);
        }
    }

    private static void done() {
        SwapLoader x = Check.begun(9);
        CHECK.due("not yet", Check.feedAll(x, 131, 50, 60, 70, 80), 8);
        for (int a = 96; a < 100; a++) {
            CHECK.due("no head yet: " + a, x.byteAt(a), 255);
        }
        int writes = x.state(7);
        CHECK.due("DONE; the rest is passed over", x.feed(0x3F3F_3F00L, 4), 9);
        int[] flash = Check.flash(x);
        CHECK.due("mark", flash[96], 165);
        CHECK.due("version", flash[97], 8);
        CHECK.due("length", flash[98], 9);
        CHECK.due("sum", flash[99], Check.sum(flash, 96, 8, 9));
        CHECK.due("one byte and four of the head", x.state(7), writes + 5);
        CHECK.due("version(1)", x.version(1), 8);
        CHECK.dueStates("DONE", x, 1, 7, 9, 5);
        CHECK.due("refused then", x.feed(0, 1), Check.BAD);
        CHECK.dueUnchanged("feed when DONE", x, flash, new int[] {1, 7, 9, 5, 0, 0, writes + 5 + 6, writes + 5});
    }

    private static void refused() {
        SwapLoader x = Check.begun(20);
        for (int n : new int[] {0, -1, 9, Integer.MIN_VALUE, Integer.MAX_VALUE}) {
            int[] flash = Check.flash(x);
            int[] states = Check.states(x);
            CHECK.due("feed(0, " + n + ")", x.feed(0, n), Check.BAD);
            CHECK.dueUnchanged("feed", x, flash, states);
        }
        CHECK.due("feed(0, 8)", x.feed(0, 8), 12);
        CHECK.due("no patch", Check.running().feed(0, 1), Check.BAD);
        CHECK.due("no power", new SwapLoader().feed(0, 1), Check.BAD);
    }

    /** Sum, length, version and mark go in this order behind the last byte. */
    private static void cutInPatch() {
        int[] order = {100, 101, 102, 103, 99, 98, 97, 96};
        SwapLoader whole = Check.begun(8);
        whole.feed(63, 1);
        for (int k = 0; k <= 8; k++) {
            SwapLoader x = Check.begun(8);
            int[] want = Check.flash(x);
            for (int i = 0; i < k; i++) {
                want[order[i]] = whole.byteAt(order[i]);
            }
            x.cut(k);
            CHECK.due("cut after " + k, x.feed(63, 1), k == 8 ? 8 : Check.GONE);
            CHECK.dueFlash("cut after " + k, Check.flash(x), want);
            if (k < 8) {
                CHECK.dueStates("cut after " + k, x, 0, 0, 0, 0, 0, 0, 6 + k, k);
                CHECK.due("not valid", x.version(1), 0);
                CHECK.due("boot", x.boot(), 7);
                CHECK.due("the patch ended", x.feed(0, 1), Check.BAD);
                CHECK.due("request", x.request(), 0);
            }
        }
    }
}
