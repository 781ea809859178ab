import java.util.function.Consumer;
import java.util.function.Supplier;

/** Counts what is not as due, prints it, and ends a test with exit code 1 if there was any. */
final class Check {
    private static int checked = 0;
    private static int wrong = 0;

    private Check() {
    }

    static void due(String call, long got, long want) {
        dueText(call, Long.toString(got), Long.toString(want));
    }

    static void dueDouble(String call, double got, double want) {
        dueText(call, Double.toString(got), Double.toString(want));
    }

    static void dueText(String call, String got, String want) {
        checked++;
        if (!got.equals(want)) {
            wrong++;
            System.out.println(call + " answered " + got + ", due is " + want);
        }
    }

    /** Prices and hours of defrosting show only later, so a twin without the call lives on beside. */
    static void refuses(Class<? extends RuntimeException> kind, String name,
            Supplier<ColdStore> scene, Consumer<ColdStore> call) {
        ColdStore store = scene.get();
        ColdStore twin = scene.get();
        dueText(name + " throws", thrownBy(store, call), kind.getName());
        dueText("the state after " + name, State.of(store), State.of(twin));
        int hours = Math.min(24, 2000 - twin.now());
        for (int i = 1; i <= hours; i++) {
            due("tick(1) the " + i + ". time after " + name, store.tick(1), twin.tick(1));
            due("digest() " + i + " hours after " + name, store.digest(), twin.digest());
        }
        dueText("the state a day after " + name, State.of(store), State.of(twin));
    }

    static void refusesIndex(String name, Supplier<ColdStore> scene, Consumer<ColdStore> call) {
        refuses(IndexOutOfBoundsException.class, name, scene, call);
    }

    static void refusesArgument(String name, Supplier<ColdStore> scene, Consumer<ColdStore> call) {
        refuses(IllegalArgumentException.class, name, scene, call);
    }

    static void refusesState(String name, Supplier<ColdStore> scene, Consumer<ColdStore> call) {
        refuses(IllegalStateException.class, name, scene, call);
    }

    private static String thrownBy(ColdStore store, Consumer<ColdStore> call) {
        try {
            call.accept(store);
            return "nothing";
        } catch (RuntimeException e) {
            return e.getClass().getName();
        }
    }

    static void end(String test) {
        System.out.println(test + ": " + checked + " checks, " + wrong + " not as due");
        System.exit(wrong == 0 && checked > 0 ? 0 : 1);
    }
}
