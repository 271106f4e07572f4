import java.lang.reflect.Field;

/**
 * Puts bytes into the flash that no run of calls would leave there, so that the
 * sentences about such a flash have their tests too. The one place of the tests
 * that knows how the program holds its state.
 */
final class Inside {
    private Inside() {
    }

    static void put(SwapLoader x, int address, int... values) {
        int[] bytes = bytesOf(x);
        for (int i = 0; i < values.length; i++) {
            bytes[address + i] = values[i];
        }
    }

    /** An image with this head and the sum that is right for it; its other bytes as they lie. */
    static void putHead(SwapLoader x, int start, int version, int length) {
        put(x, start, 165, version, length, Check.sum(bytesOf(x), start, version, length));
    }

    private static int[] bytesOf(SwapLoader x) {
        try {
            Object flash = field(SwapLoader.class, "flash").get(x);
            return (int[]) field(flash.getClass(), "bytes").get(flash);
        } catch (ReflectiveOperationException e) {
            throw new IllegalStateException("the program holds its flash in another way now", e);
        }
    }

    private static Field field(Class<?> owner, String name) throws NoSuchFieldException {
        Field field = owner.getDeclaredField(name);
        field.setAccessible(true);
        return field;
    }
}
