/**
 * "An object is used for at most 512 calls after it has been made": runs of
 * just so many, with the dearest calls, and each answer is due to the last one.
 */
public final class LimitTest {
    private static final Check CHECK = new Check("LimitTest");
    private static final int CALLS = 512;

    public static void main(String[] args) {
        changesForthAndBack();
        onePatchAfterAnother();
        manyCuts();
        CHECK.end();
    }

    private static void changesForthAndBack() {
        SwapLoader x = new SwapLoader();
        x.factory(7, 96, 3);
        x.boot();
        x.begin(8, 96);
        x.feed(0x3F3F, 2);
        int calls = 4;
        while (calls + 3 < CALLS) {
            CHECK.due("call " + calls + ": request", x.request(), 1);
            CHECK.due("call " + calls + ": forth", x.boot(), 8);
            CHECK.due("call " + calls + ": back", x.boot(), 7);
            calls += 3;
        }
        CHECK.due("calls but one", calls, CALLS - 1);
        CHECK.due("the last call", x.request(), 1);
    }

    private static void onePatchAfterAnother() {
        SwapLoader x = new SwapLoader();
        x.factory(7, 96, 3);
        x.boot();
        int calls = 2;
        while (calls + 2 <= CALLS) {
            CHECK.due("call " + calls + ": begin", x.begin(9, 96), 4);
            CHECK.due("call " + calls + ": feed", x.feed(0x3F3F, 2), 96);
            calls += 2;
        }
        CHECK.due("all calls", calls, CALLS);
    }

    /** The change comes to its end though the power goes at every step of it. */
    private static void manyCuts() {
        SwapLoader x = new SwapLoader();
        x.factory(7, 96, 3);
        x.boot();
        x.begin(8, 96);
        x.feed(0x3F3F, 2);
        x.request();
        int gone = 0;
        for (int calls = 5; calls + 2 <= CALLS && x.state(4) < 18; calls += 3) {
            int steps = x.state(4);
            x.cut(18);
            CHECK.due("boot", x.boot(), Check.GONE);
            gone++;
            CHECK.due("one step further", x.state(4), steps + 1);
        }
        CHECK.due("cuts", gone, 18);
        CHECK.due("boot", x.boot(), 8);
    }
}
