import java.lang.management.ManagementFactory;

/** All calls of a run live in one room, so the dear calls may make nothing, however long they run. */
public final class MemoryTest {
    private static final int CALLS = 512;
    private static final long MOST_BYTES = 200_000;

    public static void main(String[] args) {
        ColdStore store = fullStore();
        ask(store);
        com.sun.management.ThreadMXBean threads =
                (com.sun.management.ThreadMXBean) ManagementFactory.getThreadMXBean();
        long before = threads.getCurrentThreadAllocatedBytes();
        ask(store);
        long made = threads.getCurrentThreadAllocatedBytes() - before;
        System.out.println("bytes made by " + CALLS + " rounds of calls: " + made);
        Check.due("more bytes than " + MOST_BYTES, made > MOST_BYTES ? 1 : 0, 0);
        Check.end("MemoryTest");
    }

    private static ColdStore fullStore() {
        ColdStore store = new ColdStore();
        store.addProduct(-300, 200, 5000, 0);
        for (int room = 0; room < 6; room++) {
            store.addRoom(10, 5, 100, 0);
        }
        for (int pallet = 0; pallet < 60; pallet++) {
            store.arrive(0, pallet / 10, 50);
        }
        // from now on no pallet has 5000 left, so that the shipping below finds none
        store.tick(1);
        return store;
    }

    private static void ask(ColdStore store) {
        for (int call = 0; call < CALLS; call++) {
            store.lasts(call % 60);
            store.foretell(call % 6, 100);
            store.digest();
            store.bestRoom(0);
            store.freshness(0);
            store.ship(0, 60, 5000);
            if (call % 4 == 0) {
                store.tick(1);
            }
        }
    }
}
