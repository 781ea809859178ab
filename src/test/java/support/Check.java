import java.util.function.Consumer;
import java.util.function.Supplier;
import java.util.function.ToLongFunction;

/** Counts what is not as due, prints it, and ends a test with exit code 1 if there was any. */
final class Check {
    private static int checked = 0;
    private static int wrong = 0;
    private static String sentence = "";

    private Check() {
    }

    /** Quotes the sentence of the document that the checks from here on are about. */
    static void sentence(String head, String text) {
        sentence = head + ", \"" + text + "\": ";
    }

    static void due(String call, long got, long want) {
        dueText(call, Long.toString(got), Long.toString(want));
    }

    static void dueDouble(String call, double got, double want) {
        dueText(call, Double.toString(got), Double.toString(want));
    }

    static void dueText(String call, String got, String want) {
        checked++;
        if (!got.equals(want)) {
            wrong++;
            System.out.println(sentence + call + " answered " + got + ", due is " + want);
        }
    }

    /** For a call at a bound, which would throw if the bound lay elsewhere: the test goes on then. */
    static void answers(String name, ColdStore store, ToLongFunction<ColdStore> call, long want) {
        String got;
        try {
            got = Long.toString(call.applyAsLong(store));
        } catch (RuntimeException e) {
            got = e.getClass().getName();
        }
        dueText(name, got, Long.toString(want));
    }

    static void takes(String name, Supplier<ColdStore> scene, Consumer<ColdStore> call) {
        dueText(name + " throws", thrownBy(scene.get(), call), "nothing");
    }

    /** Each look has a store of its own, since nothing is promised after an object's 512th call. */
    static void refuses(Class<? extends RuntimeException> kind, String name,
            Supplier<ColdStore> scene, Consumer<ColdStore> call) {
        dueText(name + " throws", thrownBy(scene.get(), call), kind.getName());
        Supplier<ColdStore> refused = () -> {
            ColdStore store = scene.get();
            thrownBy(store, call);
            return store;
        };
        dueSame("the state after " + name, refused, scene);
        dueSameHours(name, refused.get(), scene.get());
        dueSame("the state a day after " + name, aDayLater(refused), aDayLater(scene));
    }

    private static void dueSame(String name, Supplier<ColdStore> got, Supplier<ColdStore> want) {
        dueText(name, State.ofStore(got.get()), State.ofStore(want.get()));
        dueText(name, State.ofPallets(got.get()), State.ofPallets(want.get()));
    }

    /** Prices and hours of defrosting show only later, so a twin without the call lives on beside. */
    private static void dueSameHours(String name, ColdStore store, ColdStore twin) {
        int hours = hoursToLive(twin);
        for (int i = 1; i <= hours; i++) {
            due("tick(1) the " + i + ". time after " + name, store.tick(1), twin.tick(1));
            due("digest() " + i + " hours after " + name, store.digest(), twin.digest());
        }
    }

    private static Supplier<ColdStore> aDayLater(Supplier<ColdStore> scene) {
        return () -> {
            ColdStore store = scene.get();
            int hours = hoursToLive(store);
            if (hours > 0) {
                store.tick(hours);
            }
            return store;
        };
    }

    private static int hoursToLive(ColdStore store) {
        return Math.max(0, Math.min(24, 2000 - store.now()));
    }

    static void refusesIndex(String name, Supplier<ColdStore> scene, Consumer<ColdStore> call) {
        refuses(IndexOutOfBoundsException.class, name, scene, call);
    }

    static void refusesArgument(String name, Supplier<ColdStore> scene, Consumer<ColdStore> call) {
        refuses(IllegalArgumentException.class, name, scene, call);
    }

    static void refusesState(String name, Supplier<ColdStore> scene, Consumer<ColdStore> call) {
        refuses(IllegalStateException.class, name, scene, call);
    }

    private static String thrownBy(ColdStore store, Consumer<ColdStore> call) {
        try {
            call.accept(store);
            return "nothing";
        } catch (RuntimeException e) {
            return e.getClass().getName();
        }
    }

    static void end(String test) {
        System.out.println(test + ": " + checked + " checks, " + wrong + " not as due");
        System.exit(wrong == 0 && checked > 0 ? 0 : 1);
    }
}
