import java.lang.management.ManagementFactory;
import java.util.function.ObjIntConsumer;

/** All calls of a run live in one room, so the dear calls may make nothing, however long they run. */
public final class MemoryTest {
    private static final int CALLS = 440;
    private static final long MOST_BYTES = 20_000;
    private static final com.sun.management.ThreadMXBean THREADS =
            (com.sun.management.ThreadMXBean) ManagementFactory.getThreadMXBean();

    public static void main(String[] args) {
        makesNothing("lasts", (store, call) -> store.lasts(call % 60));
        makesNothing("foretell", (store, call) -> store.foretell(call % 6, 100));
        makesNothing("digest", (store, call) -> store.digest());
        makesNothing("bestRoom", (store, call) -> store.bestRoom(0));
        makesNothing("freshness", (store, call) -> store.freshness(0));
        makesNothing("ship", (store, call) -> store.ship(0, 60, 5000));
        makesNothing("move", (store, call) -> store.move(0, 1 - call % 2));
        makesNothing("tick", (store, call) -> store.tick(4));
        Check.end("MemoryTest");
    }

    private static ColdStore fullStore() {
        ColdStore store = new ColdStore();
        store.addProduct(-300, 200, 5000, 0);
        for (int room = 0; room < 6; room++) {
            store.addRoom(20, 5, 100, 0);
        }
        for (int pallet = 0; pallet < 60; pallet++) {
            store.arrive(0, pallet / 10, 50);
        }
        // from now on no pallet has 5000 left, so that the shipping finds none
        store.tick(1);
        return store;
    }

    /** With the 68 calls that fill the store these calls stay under the 512 that an object is used for. */
    private static void makesNothing(String name, ObjIntConsumer<ColdStore> call) {
        bytesMade(call);
        long made = bytesMade(call);
        Check.due(name + " makes " + made + " bytes, more than " + MOST_BYTES, made > MOST_BYTES ? 1 : 0, 0);
    }

    private static long bytesMade(ObjIntConsumer<ColdStore> call) {
        ColdStore store = fullStore();
        long before = THREADS.getCurrentThreadAllocatedBytes();
        for (int i = 0; i < CALLS; i++) {
            call.accept(store, i);
        }
        return THREADS.getCurrentThreadAllocatedBytes() - before;
    }
}
