/**
 * "BAD = -1: A number is not as said, or this is not the time; nothing is
 * changed." Each call that promises 7 to 10 refuses, at each time at which it
 * is refused; dueBad looks at the flash, the states and the cut behind it.
 */
public final class RefusedTest {
    private static final Check CHECK = new Check("RefusedTest");

    public static void main(String[] args) {
        beginWrongNumbers();
        nothingRuns();
        aLogHasARequest();
        theReturnLogHasARequest();
        requestOfNoImage();
        confirmOutOfTime();
        noPatch();
        refusedUnderACut();
        CHECK.end();
    }

    /** Promise 7: "version or length are not as said": the numbers just outside. */
    private static void beginWrongNumbers() {
        int[][] wrong = {{0, 20}, {251, 20}, {9, 7}, {9, 97}, {0, 7}, {251, 97}, {-1, 20}, {9, -1}, {9, 0}, {257, 20},
            {9, 264}, {Integer.MIN_VALUE, 20}, {Integer.MAX_VALUE, 20}, {9, Integer.MIN_VALUE}, {9, Integer.MAX_VALUE}};
        for (int[] w : wrong) {
            SwapLoader x = Check.begun(20);
            x.feed(0x82, 1);
            CHECK.dueBad("begin(" + w[0] + ", " + w[1] + ")", x, () -> x.begin(w[0], w[1]));
            CHECK.due("the patch goes on", x.feed(0x030201, 3), 7);
            CHECK.due("with what it was about to add", x.byteAt(102), 3);
            CHECK.due("to its own length", x.feed(63, 1), 20);
            CHECK.due("and version", x.version(1), 8);
            SwapLoader y = Check.running();
            CHECK.dueBad("begin(" + w[0] + ", " + w[1] + ")", y, () -> y.begin(w[0], w[1]));
        }
    }

    /** Promises 7, 9 and 10: "BAD when nothing runs". */
    private static void nothingRuns() {
        SwapLoader empty = new SwapLoader();
        dueNothingCanBeDone("new", empty);
        empty.boot();
        dueNothingCanBeDone("no image", empty);
        SwapLoader made = new SwapLoader();
        made.factory(7, 40, 1);
        dueNothingCanBeDone("factory", made);
        SwapLoader patched = Check.patched();
        patched.off();
        dueNothingCanBeDone("off", patched);
        SwapLoader trial = Check.tried();
        trial.off();
        dueNothingCanBeDone("off on trial", trial);
        SwapLoader cut = Check.patched();
        cut.cut(0);
        cut.request();
        dueNothingCanBeDone("cut", cut);
    }

    private static void dueNothingCanBeDone(String when, SwapLoader x) {
        CHECK.dueBad(when + ": begin", x, () -> x.begin(9, 20));
        CHECK.dueBad(when + ": feed", x, () -> x.feed(0, 1));
        CHECK.dueBad(when + ": request", x, x::request);
        CHECK.dueBad(when + ": confirm", x, x::confirm);
    }

    /** Promises 7 and 9: "or a log has a REQUEST": asked for, on trial, confirmed. */
    private static void aLogHasARequest() {
        SwapLoader x = Check.patched();
        CHECK.due("request", x.request(), 1);
        dueNoNewChange("asked for", x);
        x.boot();
        dueNoNewChange("on trial", x);
        x.confirm();
        dueNoNewChange("confirmed", x);
        x.boot();
        CHECK.due("page 13 is erased: begin", x.begin(9, 20), 4);
        SwapLoader y = Check.tried();
        y.boot();
        CHECK.due("changed back: request", y.request(), 1);
    }

    /** The same for page 14, which no run of calls leaves with a REQUEST while an image runs. */
    private static void theReturnLogHasARequest() {
        SwapLoader x = Check.patched();
        Inside.put(x, Check.BACK_LOG, 15);
        dueNoNewChange("page 14", x);
        Inside.put(x, Check.BACK_LOG, 255);
        CHECK.due("request", x.request(), 1);
    }

    private static void dueNoNewChange(String when, SwapLoader x) {
        CHECK.dueBad(when + ": begin", x, () -> x.begin(9, 20));
        CHECK.dueBad(when + ": request", x, x::request);
    }

    /** Promise 9: "0, and nothing is written, when NEXT is not VALID"; but BAD goes before it. */
    private static void requestOfNoImage() {
        SwapLoader x = Check.running();
        CHECK.dueIdle("NEXT is erased", x, x::request, 0);
        x.begin(8, 20);
        CHECK.dueIdle("begun", x, x::request, 0);
        x.feed(0x0E, 1);
        CHECK.dueIdle("all but one", x, x::request, 0);
        CHECK.due("the patch goes on", x.feed(0, 1), 20);
        CHECK.due("DONE", x.request(), 1);
        Inside.put(x, Check.NEXT, 0);
        CHECK.dueBad("a REQUEST, and NEXT is not VALID", x, x::request);
        x.off();
        CHECK.dueBad("nothing runs, and NEXT is not VALID", x, x::request);
        SwapLoader broken = Check.patched();
        Inside.put(broken, Check.NEXT + 69, broken.byteAt(Check.NEXT + 69) ^ 1);
        CHECK.dueIdle("its last byte is another", broken, broken::request, 0);
    }

    /** Promise 10: "or page 13 is not TRIED or is CONFIRMED". */
    private static void confirmOutOfTime() {
        SwapLoader x = Check.running();
        CHECK.dueBad("no log", x, x::confirm);
        x.begin(8, 8);
        CHECK.dueBad("in a patch", x, x::confirm);
        x.feed(63, 1);
        CHECK.dueBad("DONE", x, x::confirm);
        x.request();
        CHECK.dueBad("asked for, not TRIED", x, x::confirm);
        x.boot();
        int[] want = Check.flash(x);
        int[] states = Check.states(x);
        want[Check.CONFIRMED] = 0;
        states[6]++;
        states[7]++;
        CHECK.due("on trial", x.confirm(), 1);
        CHECK.dueUnchanged("on trial: but for CONFIRMED", x, want, states);
        CHECK.dueBad("CONFIRMED", x, x::confirm);
        x.boot();
        CHECK.dueBad("page 13 is erased", x, x::confirm);
        SwapLoader back = Check.tried();
        back.boot();
        CHECK.dueBad("changed back", back, back::confirm);
        SwapLoader notStarted = Check.tried();
        Inside.put(notStarted, Check.STARTED, 255);
        CHECK.due("TRIED is enough", notStarted.confirm(), 1);
    }

    /** Promise 8: "BAD when there is no patch". */
    private static void noPatch() {
        SwapLoader x = Check.running();
        CHECK.dueBad("none begun", x, () -> x.feed(0, 1));
        CHECK.dueBad("nor was there a begin", x, () -> x.begin(0, 8));
        CHECK.dueBad("none begun", x, () -> x.feed(0, 8));
        SwapLoader trial = Check.tried();
        CHECK.dueBad("on trial", trial, () -> trial.feed(0, 1));
        SwapLoader booted = Check.begun(20);
        booted.boot();
        CHECK.dueBad("booted", booted, () -> booted.feed(0, 1));
        SwapLoader made = Check.begun(20);
        made.factory(7, 20, 1);
        CHECK.dueBad("factory", made, () -> made.feed(0, 1));
    }

    /** A refused call does not spend the cut, nor does the power go by it. */
    private static void refusedUnderACut() {
        SwapLoader x = Check.tried();
        x.confirm();
        x.cut(0);
        dueNothingCanBeDone("cut after 0", x);
        CHECK.due("the power is there", x.state(0), 1);
        CHECK.due("the cut, too", x.safe(), 0);
    }
}
