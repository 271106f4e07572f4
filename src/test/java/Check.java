import java.util.NoSuchElementException;
import java.util.function.IntSupplier;

/** Counts the answers that are not as due; helpers that several tests share. */
final class Check {
    /** One fault may show in thousands of answers: the first ones are enough to find it. */
    private static final int PRINTED = 40;

    static final int BAD = -1;
    static final int GONE = -2;
    static final int NEXT = 96;
    static final int SPARE = 192;
    static final int LOG = 208;
    static final int BACK_LOG = 224;
    static final int TRIED = LOG + 1;
    static final int CONFIRMED = LOG + 2;
    static final int STARTED = LOG + 3;

    private final String test;
    private int wrong = 0;

    Check(String test) {
        this.test = test;
    }

    void due(String call, long got, long want) {
        if (got != want) {
            wrong++;
            if (wrong > PRINTED) {
                return;
            }
            System.out.println(test + ": " + call + " answered " + got + ", due is " + want);
        }
    }

    void due(String call, boolean got, boolean want) {
        due(call, got ? 1 : 0, want ? 1 : 0);
    }

    void dueFlash(String when, int[] got, int[] want) {
        for (int a = 0; a < want.length; a++) {
            due(when + ": byteAt(" + a + ")", got[a], want[a]);
        }
    }

    /** The eight answers of state, in order. */
    void dueStates(String when, SwapLoader x, int... want) {
        for (int what = 0; what < want.length; what++) {
            due(when + ": state(" + what + ")", x.state(what), want[what]);
        }
    }

    void dueNoByte(SwapLoader x, int address) {
        boolean thrown = false;
        try {
            x.byteAt(address);
        } catch (NoSuchElementException e) {
            thrown = true;
        }
        due("byteAt(" + address + ") throws NoSuchElementException", thrown, true);
    }

    /** A call that answers so, and nothing is changed by it: not the flash, no state, not the cut. */
    void dueIdle(String name, SwapLoader x, IntSupplier call, int answer) {
        int[] flash = flash(x);
        int[] states = states(x);
        int left = cutLeft(x);
        due(name, call.getAsInt(), answer);
        dueUnchanged(name, x, flash, states);
        due(name + ": the cut", cutLeft(x), left);
    }

    /** A call that is refused with BAD. */
    void dueBad(String name, SwapLoader x, IntSupplier call) {
        dueIdle(name, x, call, BAD);
    }

    /**
     * A call that is cut after so many operations, and what is so then: no power,
     * nothing runs, no patch, the cut is over, and the operation that came too
     * late is not counted.
     */
    void dueGone(String name, SwapLoader x, IntSupplier call, int operations) {
        int before = x.state(6);
        x.cut(operations);
        due(name, call.getAsInt(), GONE);
        dueStates(name, x, 0, 0, 0, 0);
        due(name + ": operations", x.state(6), before + operations);
        due(name + ": the cut is over", x.safe(), -1);
        dueIdle(name + ": off", x, () -> x.off() ? 1 : 0, 0);
        dueBad(name + ": begin", x, () -> x.begin(9, 20));
        dueBad(name + ": feed", x, () -> x.feed(0, 1));
        dueBad(name + ": request", x, x::request);
        dueBad(name + ": confirm", x, x::confirm);
    }

    /** Everything is as it was. */
    void dueUnchanged(String call, SwapLoader x, int[] flashBefore, int[] statesBefore) {
        dueFlash("after " + call, flash(x), flashBefore);
        dueStates("after " + call, x, statesBefore);
    }

    void end() {
        System.out.println(test + ": " + (wrong == 0 ? "all answers are as due" : wrong + " answers are not as due"));
        if (wrong != 0) {
            System.exit(1);
        }
    }

    static int[] flash(SwapLoader x) {
        int[] bytes = new int[240];
        for (int a = 0; a < bytes.length; a++) {
            bytes[a] = x.byteAt(a);
        }
        return bytes;
    }

    static int[] states(SwapLoader x) {
        int[] states = new int[8];
        for (int what = 0; what < states.length; what++) {
            states[what] = x.state(what);
        }
        return states;
    }

    /** How many operations are left until the cut, or -1; the cut stays. */
    static int cutLeft(SwapLoader x) {
        int left = x.safe();
        if (left >= 0) {
            x.cut(left);
        }
        return left;
    }

    /** The sum of an image as the document tells it. */
    static int sum(int[] flash, int start, int version, int length) {
        int s = 7;
        s = (31 * s + version) % 256;
        s = (31 * s + length) % 256;
        for (int i = 4; i < length; i++) {
            s = (31 * s + flash[start + i]) % 256;
        }
        return s;
    }

    /** Feeds bytes one by one; the last answer. */
    static int feedAll(SwapLoader x, int... bytes) {
        int answer = 0;
        for (int b : bytes) {
            answer = x.feed(b, 1);
        }
        return answer;
    }

    /** Version 7 runs. */
    static SwapLoader running() {
        SwapLoader x = new SwapLoader();
        x.factory(7, 96, 5);
        x.boot();
        return x;
    }

    /** Version 7 runs, and a patch for version 8 is begun. */
    static SwapLoader begun(int length) {
        SwapLoader x = running();
        x.begin(8, length);
        return x;
    }

    /** Version 7 runs, and NEXT holds version 8: other bytes, and shorter. */
    static SwapLoader patched() {
        SwapLoader x = running();
        x.begin(8, 70);
        feedAll(x, 64, 30, 39, 130, 1, 255, 3, 63);
        return x;
    }

    /** As patched, and the change is asked for. */
    static SwapLoader requested() {
        SwapLoader x = patched();
        x.request();
        return x;
    }

    /** Version 8 runs on trial. */
    static SwapLoader tried() {
        SwapLoader x = requested();
        x.boot();
        return x;
    }
}
