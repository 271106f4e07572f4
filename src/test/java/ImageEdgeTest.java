import java.math.BigInteger;

/** "AN IMAGE" of the document, promises 2 and 12: a test for each sentence that names an edge. */
public final class ImageEdgeTest {
    private static final Check CHECK = new Check("ImageEdgeTest");

    public static void main(String[] args) {
        for (int which = 0; which < 2; which++) {
            mark(which);
            versions(which);
            lengths(which);
            sums(which);
            bytesOfTheSum(which);
        }
        sumsByHand();
        noImageRuns();
        factoryNumbers();
        factoryRefused();
        factoryBytes();
        factoryEndsAll();
        whichImage();
        CHECK.end();
    }

    /** An image of 40 bytes in MAIN or NEXT, with bytes behind it that are not 255. */
    private static SwapLoader image(int which) {
        SwapLoader x = Check.running();
        int start = 96 * which;
        for (int i = 4; i < 98; i++) {
            Inside.put(x, start + i, 200 - i);
        }
        Inside.putHead(x, start, 9, 40);
        CHECK.due("the image of " + which, x.version(which), 9);
        return x;
    }

    /** "byte 0 is 165" */
    private static void mark(int which) {
        SwapLoader x = image(which);
        for (int mark : new int[] {164, 166, 37, 0, 255}) {
            Inside.put(x, 96 * which, mark);
            CHECK.dueIdle("byte 0 is " + mark, x, () -> x.version(which), 0);
        }
        Inside.put(x, 96 * which, 165);
        CHECK.due("byte 0 is 165", x.version(which), 9);
    }

    /** "1 its VERSION (1 .. 250)" */
    private static void versions(int which) {
        SwapLoader x = image(which);
        for (int version : new int[] {0, 1, 2, 249, 250, 251, 255}) {
            Inside.putHead(x, 96 * which, version, 40);
            boolean right = version >= 1 && version <= 250;
            CHECK.dueIdle("version " + version, x, () -> x.version(which), right ? version : 0);
        }
    }

    /** "2 its LENGTH (8 .. 96)" */
    private static void lengths(int which) {
        SwapLoader x = image(which);
        for (int length : new int[] {4, 7, 8, 9, 95, 96, 97}) {
            Inside.putHead(x, 96 * which, 9, length);
            boolean right = length >= 8 && length <= 96;
            CHECK.dueIdle("length " + length, x, () -> x.version(which), right ? 9 : 0);
        }
        for (int length : new int[] {0, 3, 250, 255}) {
            Inside.put(x, 96 * which + 2, length);
            CHECK.dueIdle("length " + length, x, () -> x.version(which), 0);
        }
    }

    /** "3 its SUM" */
    private static void sums(int which) {
        SwapLoader x = image(which);
        int right = x.byteAt(96 * which + 3);
        for (int sum = 0; sum < 256; sum++) {
            Inside.put(x, 96 * which + 3, sum);
            CHECK.due("sum " + sum, x.version(which), sum == right ? 9 : 0);
        }
    }

    /** "for version, length, and bytes 4 up to the length" */
    private static void bytesOfTheSum(int which) {
        int start = 96 * which;
        for (int i : new int[] {4, 5, 38, 39, 40, 41, 95}) {
            SwapLoader x = image(which);
            Inside.put(x, start + i, 201 - i);
            CHECK.due("another byte " + i, x.version(which), i < 40 ? 0 : 9);
        }
        SwapLoader x = image(which);
        Inside.put(x, start + 1, 10);
        CHECK.due("another version", x.version(which), 0);
        Inside.put(x, start + 1, 9, 41);
        CHECK.due("another length", x.version(which), 0);
    }

    /** "s = 7; ... s becomes (31 * s + the byte) mod 256": reckoned by hand. */
    private static void sumsByHand() {
        SwapLoader x = Check.running();
        x.begin(1, 8);
        CHECK.due("four times 0", x.feed(0x83, 5), 8);
        CHECK.due("sum", x.byteAt(99), 110);
        x.begin(250, 8);
        CHECK.due("four times 255", x.feed(0xFF_FF_FF_FF_83L, 5), 8);
        CHECK.due("sum", x.byteAt(99), 213);
    }

    /** "What runs then is MAIN's image, if it is VALID"; "there is power, but nothing runs" */
    private static void noImageRuns() {
        SwapLoader x = image(0);
        Inside.put(x, 3, x.byteAt(3) ^ 1);
        CHECK.due("it runs until it is booted", x.state(1), 7);
        CHECK.due("boot", x.boot(), 0);
        CHECK.dueStates("boot", x, 1, 0, 0, 0);
        CHECK.dueBad("begin", x, () -> x.begin(9, 20));
        CHECK.dueBad("feed", x, () -> x.feed(0, 1));
        CHECK.dueBad("request", x, x::request);
        CHECK.dueBad("confirm", x, x::confirm);
        CHECK.due("off", x.off(), true);
    }

    /** The least and the greatest version and length that are as said. */
    private static void factoryNumbers() {
        int[][] right = {{1, 8}, {1, 96}, {250, 8}, {250, 96}};
        for (int[] r : right) {
            SwapLoader x = new SwapLoader();
            CHECK.due("factory(" + r[0] + ", " + r[1] + ")", x.factory(r[0], r[1], 3), true);
            CHECK.due("version(0)", x.version(0), r[0]);
            CHECK.due("the last byte", x.byteAt(r[1] - 1), lastDrawn(r[1] - 4, 3));
            CHECK.due("the byte behind it", x.byteAt(r[1]), 255);
            CHECK.due("boot", x.boot(), r[0]);
        }
    }

    /** "False, and nothing is changed, when version or length are not as said." */
    private static void factoryRefused() {
        int[][] wrong = {{0, 40}, {251, 40}, {7, 7}, {7, 97}, {0, 7}, {251, 97}, {-1, 40}, {7, -1}, {7, 0}, {257, 40},
            {7, 264}, {Integer.MIN_VALUE, 40}, {Integer.MAX_VALUE, 40}, {7, Integer.MIN_VALUE}, {7, Integer.MAX_VALUE}};
        for (int[] w : wrong) {
            SwapLoader x = Check.begun(20);
            x.feed(0x82, 1);
            x.cut(9);
            CHECK.dueIdle("factory(" + w[0] + ", " + w[1] + ")", x, () -> x.factory(w[0], w[1], 1) ? 1 : 0, 0);
            CHECK.due("the patch goes on", x.feed(0x030201, 3), 7);
            CHECK.due("with what it was about to add", x.byteAt(100), 1);
            SwapLoader y = Check.tried();
            CHECK.dueIdle("factory(" + w[0] + ", " + w[1] + ")", y, () -> y.factory(w[0], w[1], 1) ? 1 : 0, 0);
        }
    }

    /** "S becomes S * 1103515245 + 12345; (S >>> 16) & 255": with wrap-around, from byte 4 on. */
    private static void factoryBytes() {
        for (int seed : new int[] {0, 1, -1, Integer.MIN_VALUE, Integer.MAX_VALUE}) {
            SwapLoader x = new SwapLoader();
            x.factory(9, 12, seed);
            for (int i = 1; i <= 8; i++) {
                CHECK.due("seed " + seed + ": byte " + (3 + i), x.byteAt(3 + i), lastDrawn(i, seed));
            }
        }
        SwapLoader x = new SwapLoader();
        x.factory(9, 12, 0);
        CHECK.due("the first byte of seed 0", x.byteAt(4), 0);
        CHECK.due("the second", x.byteAt(5), 220);
    }

    /** "All of the flash is erased"; "no cut, no power, no patch"; "(None of this is an operation.)" */
    private static void factoryEndsAll() {
        SwapLoader x = Check.running();
        for (int a = 0; a < 240; a++) {
            Inside.put(x, a, 0);
        }
        x.cut(0);
        CHECK.due("factory", x.factory(3, 8, 1), true);
        for (int a = 8; a < 240; a++) {
            CHECK.due("erased " + a, x.byteAt(a), 255);
        }
        CHECK.dueStates("factory", x, 0, 0, 0, 0, 0, 0, 0, 0);
        CHECK.due("no cut", x.safe(), -1);
        CHECK.due("no power", x.off(), false);

        SwapLoader y = Check.begun(20);
        y.feed(0x82, 1);
        y.factory(3, 8, 1);
        CHECK.dueStates("the operations made ever", y, 0, 0, 0, 0, 0, 0, 6, 0);
        CHECK.dueBad("no patch", y, () -> y.feed(0, 1));
        y.boot();
        CHECK.dueBad("no patch after boot", y, () -> y.feed(0, 1));
    }

    /** "of MAIN (0) or NEXT (1); 0 when there is none, BAD for others." */
    private static void whichImage() {
        SwapLoader none = new SwapLoader();
        CHECK.dueIdle("version(0) of none", none, () -> none.version(0), 0);
        CHECK.dueIdle("version(1) of none", none, () -> none.version(1), 0);
        SwapLoader x = Check.patched();
        CHECK.dueIdle("version(0)", x, () -> x.version(0), 7);
        CHECK.dueIdle("version(1)", x, () -> x.version(1), 8);
        for (int which : new int[] {-1, 2, 256, Integer.MIN_VALUE, Integer.MAX_VALUE}) {
            CHECK.dueBad("version(" + which + ")", x, () -> x.version(which));
        }
        x.off();
        CHECK.due("version(1) without power", x.version(1), 8);
        CHECK.dueBad("version(2) without power", x, () -> x.version(2));
    }

    /** The n-th byte that is drawn from a seed, reckoned without wrap-around. */
    private static int lastDrawn(int n, int seed) {
        BigInteger s = BigInteger.valueOf(seed);
        for (int i = 0; i < n; i++) {
            s = s.multiply(BigInteger.valueOf(1103515245)).add(BigInteger.valueOf(12345));
        }
        return s.shiftRight(16).and(BigInteger.valueOf(255)).intValue();
    }
}
