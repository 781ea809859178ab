import java.util.function.Supplier;

/** Both bounds of one argument, the others being right: the last values taken and the first refused. */
final class Bounds {
    private Bounds() {
    }

    interface Use {
        void of(ColdStore store, int value);
    }

    static void argument(String name, int least, int most, Supplier<ColdStore> scene, Use use) {
        check(IllegalArgumentException.class, name, new int[] {least, most}, scene, use);
    }

    static void index(String name, int least, int most, Supplier<ColdStore> scene, Use use) {
        check(IndexOutOfBoundsException.class, name, new int[] {least, most}, scene, use);
    }

    private static void check(Class<? extends RuntimeException> kind, String name, int[] bounds,
            Supplier<ColdStore> scene, Use use) {
        for (int value : bounds) {
            Check.takes(name + " = " + value, scene, store -> use.of(store, value));
        }
        refuse(kind, name, bounds[0] - 1, scene, use);
        refuse(kind, name, Integer.MIN_VALUE, scene, use);
        if (bounds[1] < Integer.MAX_VALUE) {
            refuse(kind, name, bounds[1] + 1, scene, use);
            refuse(kind, name, Integer.MAX_VALUE, scene, use);
        }
    }

    private static void refuse(Class<? extends RuntimeException> kind, String name, int value,
            Supplier<ColdStore> scene, Use use) {
        Check.refuses(kind, name + " = " + value, scene, store -> use.of(store, value));
    }
}
