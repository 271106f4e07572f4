/** "A LOG" and "TO CHANGE" of the document, promise 13: a test for each sentence that names an edge. */
public final class LogEdgeTest {
    private static final Check CHECK = new Check("LogEdgeTest");
    /** A change of two images of 8 bytes, none of them 255: erase, bytes and bit of each step. */
    private static final int FULL_STEP = 1 + 8 + 1;
    private static final int EMPTY_STEP = 1 + 1;
    private static final int FIRST_PAGE = 3 * FULL_STEP;
    private static final int WHOLE_CHANGE = FIRST_PAGE + 15 * EMPTY_STEP;

    public static void main(String[] args) {
        stepBits();
        eighteenBits();
        bitsInOrder();
        pagesAreGotInOrder();
        bytesOf255();
        emptyPages();
        firstAndLastPage();
        doneStepsArePassedOver();
        brokenStepIsMadeAgain();
        stateNumbers();
        statesOfAPatch();
        CHECK.end();
    }

    /** Version 7 of 8 bytes runs, version 8 of 8 bytes lies in NEXT, and the change is asked for. */
    private static SwapLoader small(long body) {
        SwapLoader x = new SwapLoader();
        x.factory(7, 8, 0);
        for (int i = 3; i < 8; i++) {
            CHECK.due("no 255 in MAIN's image", x.byteAt(i) != 255, true);
        }
        x.boot();
        x.begin(8, 8);
        x.feed(body << 8 | 0x83, 5);
        x.request();
        return x;
    }

    private static SwapLoader small() {
        return small(0x04030201L);
    }

    /** "step k is done when bit k % 8 of byte 4 + k / 8 is 0" */
    private static void stepBits() {
        for (int k = 0; k < 18; k++) {
            SwapLoader x = new SwapLoader();
            Inside.put(x, Check.LOG + 4 + k / 8, 255 - (1 << k % 8));
            CHECK.dueStates("step " + k + " of page 13", x, 0, 0, 0, 0, 1, 0);
            SwapLoader y = new SwapLoader();
            Inside.put(y, Check.BACK_LOG + 4 + k / 8, 255 - (1 << k % 8));
            CHECK.dueStates("step " + k + " of page 14", y, 0, 0, 0, 0, 0, 1);
        }
    }

    /** "PROGRESS: 18 bits": none but those counts. */
    private static void eighteenBits() {
        SwapLoader x = new SwapLoader();
        Inside.put(x, Check.LOG, 0, 0, 0, 0, 255, 255, 3, 0, 0);
        Inside.put(x, Check.BACK_LOG, 0, 0, 0, 0, 255, 255, 3, 0, 0);
        CHECK.dueStates("no bit of the 18", x, 0, 0, 0, 0, 0, 0);
        Inside.put(x, Check.LOG + 4, 0, 0, 252);
        CHECK.dueStates("all bits of page 13", x, 0, 0, 0, 0, 18, 0);
        Inside.put(x, Check.BACK_LOG + 4, 0, 0, 0);
        CHECK.dueStates("and of page 14", x, 0, 0, 0, 0, 18, 18);
    }

    /** "behind each step its bit is written in the log (a byte with that bit 0, all others 1)" */
    private static void bitsInOrder() {
        int operations = 0;
        for (int steps = 1; steps <= 18; steps++) {
            operations += steps <= 3 ? FULL_STEP : EMPTY_STEP;
            int bits = 0xFFFFFF << steps;
            SwapLoader x = small();
            x.cut(operations - 1);
            CHECK.due("cut before bit " + (steps - 1), x.boot(), Check.GONE);
            CHECK.due("steps", x.state(4), steps - 1);
            SwapLoader y = small();
            y.cut(operations);
            CHECK.due("cut behind bit " + (steps - 1), y.boot(), Check.GONE);
            CHECK.due("steps", y.state(4), steps);
            CHECK.due("steps of page 14", y.state(5), 0);
            for (int i = 0; i < 3; i++) {
                CHECK.due(steps + " steps: byte " + (4 + i), y.byteAt(Check.LOG + 4 + i), bits >> 8 * i & 255);
            }
        }
    }

    /** "To get a page is to write its 16 bytes in order", behind its being erased. */
    private static void pagesAreGotInOrder() {
        int[] targets = {Check.SPARE, 0, Check.NEXT};
        int[] start = Check.flash(small());
        int[][] old = {filled(255), part(start, 0), part(start, Check.NEXT)};
        int[][] got = {part(start, 0), part(start, Check.NEXT), part(start, 0)};
        for (int step = 0; step < 3; step++) {
            for (int done = 0; done <= FULL_STEP; done++) {
                SwapLoader x = small();
                x.cut(step * FULL_STEP + done);
                CHECK.due("boot", x.boot(), Check.GONE);
                for (int i = 0; i < 16; i++) {
                    int want = done == 0 ? old[step][i] : i < done - 1 ? got[step][i] : 255;
                    CHECK.due("step " + step + ", " + done + " done: byte " + i, x.byteAt(targets[step] + i), want);
                }
            }
        }
    }

    /** "but for those that are 255" */
    private static void bytesOf255() {
        SwapLoader x = small();
        int before = x.state(6);
        CHECK.due("boot", x.boot(), 8);
        CHECK.due("no 255", x.state(6) - before, WHOLE_CHANGE + 2);
        SwapLoader y = small(0xFF0302FFL);
        before = y.state(6);
        CHECK.due("the sum is not 255", y.byteAt(99) != 255, true);
        CHECK.due("boot", y.boot(), 8);
        CHECK.due("two of 255 that MAIN does not get", y.state(6) - before, WHOLE_CHANGE - 2 + 2);
        before = y.state(6);
        CHECK.due("boot", y.boot(), 7);
        CHECK.due("nor the SPARE, nor NEXT, on the way back", y.state(6) - before, 1 + WHOLE_CHANGE - 2 * 2 + 2);
    }

    /** A page of 255 alone is erased, and nothing is written but the bit. */
    private static void emptyPages() {
        SwapLoader x = small();
        x.cut(FIRST_PAGE);
        x.boot();
        CHECK.due("three steps", x.state(4), 3);
        int writes = x.state(7);
        int operations = x.state(6);
        x.cut(15 * EMPTY_STEP);
        CHECK.due("cut before TRIED", x.boot(), Check.GONE);
        CHECK.due("all steps", x.state(4), 18);
        CHECK.due("operations", x.state(6) - operations, 30);
        CHECK.due("writes", x.state(7) - writes, 15);
        CHECK.due("not TRIED", x.byteAt(Check.TRIED), 255);
    }

    /** "for each page p of MAIN (0 .. 5)": page 5, too, and nothing beside MAIN, NEXT and the SPARE. */
    private static void firstAndLastPage() {
        SwapLoader x = Check.running();
        x.begin(8, 96);
        Check.feedAll(x, 64, 10, 63, 63);
        x.request();
        int[] before = Check.flash(x);
        CHECK.due("boot", x.boot(), 8);
        for (int a : new int[] {0, 15, 16, 79, 80, 95}) {
            CHECK.due("MAIN's byte " + a, x.byteAt(a), before[96 + a]);
            CHECK.due("NEXT's byte " + a, x.byteAt(96 + a), before[a]);
        }
        CHECK.due("the SPARE's first byte is of page 5", x.byteAt(192), before[80]);
        CHECK.due("and its last", x.byteAt(207), before[95]);
        for (int a = Check.LOG + 7; a < 240; a++) {
            CHECK.due("the rest of the logs: " + a, x.byteAt(a), 255);
        }
    }

    /** "Steps that are done are passed over": no operation is made again for them. */
    private static void doneStepsArePassedOver() {
        for (int steps = 1; steps <= 18; steps++) {
            int operations = steps <= 3 ? steps * FULL_STEP : FIRST_PAGE + (steps - 3) * EMPTY_STEP;
            SwapLoader x = small();
            x.cut(operations);
            CHECK.due("cut behind step " + (steps - 1), x.boot(), Check.GONE);
            int before = x.state(6);
            CHECK.due("goes on", x.boot(), 8);
            CHECK.due("what was left after " + steps, x.state(6) - before, WHOLE_CHANGE - operations + 2);
        }
    }

    /** A step whose bit is not written is made again from its beginning. */
    private static void brokenStepIsMadeAgain() {
        for (int done = 1; done < FULL_STEP; done++) {
            for (int step = 0; step < 3; step++) {
                SwapLoader x = small();
                int[] before = Check.flash(x);
                x.cut(step * FULL_STEP + done);
                CHECK.due("cut in step " + step, x.boot(), Check.GONE);
                int operations = x.state(6);
                CHECK.due("goes on", x.boot(), 8);
                CHECK.due("made again", x.state(6) - operations, WHOLE_CHANGE - step * FULL_STEP + 2);
                for (int i = 0; i < 96; i++) {
                    CHECK.due("MAIN " + i, x.byteAt(i), before[96 + i]);
                    CHECK.due("NEXT " + i, x.byteAt(96 + i), before[i]);
                }
            }
        }
    }

    /** "BAD for others", and what the eight numbers tell while two logs are in use. */
    private static void stateNumbers() {
        SwapLoader x = small();
        x.boot();
        x.cut(1 + FULL_STEP + 3);
        CHECK.due("cut on the way back", x.boot(), Check.GONE);
        int begun = 6 + 8 + 1;
        int forth = WHOLE_CHANGE + 2;
        int forthErased = 18;
        CHECK.dueStates("on the way back", x, 0, 0, 0, 0, 18, 1, begun + forth + 14, 9 + forth - forthErased + 12);
        for (int what : new int[] {-1, 8, 9, 256, Integer.MIN_VALUE, Integer.MAX_VALUE}) {
            CHECK.dueBad("state(" + what + ") without power", x, () -> x.state(what));
        }
        CHECK.due("boot", x.boot(), 7);
        CHECK.dueStates("changed back", x, 1, 7, 0, 0, 0, 0);
        for (int what : new int[] {-1, 8}) {
            CHECK.dueBad("state(" + what + ")", x, () -> x.state(what));
        }
    }

    /** "2 the next byte to be made by the patch (0: there is no patch), 3 its PLACE (0 likewise)" */
    private static void statesOfAPatch() {
        SwapLoader x = Check.running();
        CHECK.dueStates("no patch", x, 1, 7, 0, 0);
        x.begin(9, 20);
        CHECK.dueStates("begun", x, 1, 7, 4, 4);
        x.feed(0x0040, 2);
        CHECK.dueStates("a PLACE of 0 that is one", x, 1, 7, 4, 0);
        x.feed(63, 1);
        CHECK.dueStates("DONE, but there", x, 1, 7, 20, 16);
        x.request();
        CHECK.dueStates("asked for, but there", x, 1, 7, 20, 16);
        x.boot();
        CHECK.dueStates("booted", x, 1, 9, 0, 0);
    }

    private static int[] part(int[] flash, int start) {
        return java.util.Arrays.copyOfRange(flash, start, start + 16);
    }

    private static int[] filled(int value) {
        int[] bytes = new int[16];
        java.util.Arrays.fill(bytes, value);
        return bytes;
    }
}
