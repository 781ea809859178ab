/** Stores to call upon. */
final class Scenes {
    static final int SHORT_LIVED = 4;

    private Scenes() {
    }

    /**
     * A store in the middle of its work, in which any change shows: products 0 to 3 with the smells
     * 0 to 3, product 4 short-lived; room 0 with two free places, room 1 thrifty with two, room 2 full;
     * pallet 0 of product 0 and the spoiled pallet 1 of product 4 in room 0, 2 of product 2 in room 1,
     * 3 of product 3 in room 2, and 4 of product 1, which is gone; the time is 9.
     */
    static ColdStore working() {
        ColdStore store = new ColdStore();
        for (int smell = 0; smell <= 3; smell++) {
            store.addProduct(0, 40, 300 + smell, smell);
        }
        store.addProduct(0, 40, 10, 0);
        store.addRoom(4, 5, 100, 0);
        store.addRoom(3, 7, 150, -50);
        store.addRoom(1, 3, 0, 100);
        store.setOutside(120, 90);
        store.setPrice(0, 6, 3);
        store.setRoom(1, -50, true);
        store.arrive(0, 0, 200);
        store.arrive(SHORT_LIVED, 0, 100);
        store.arrive(2, 1, 0);
        store.arrive(3, 2, 50);
        store.arrive(1, 0, 20);
        store.tick(9);
        store.ship(1, 1, 0);
        return store;
    }

    static ColdStore workingAt(int time) {
        ColdStore store = working();
        while (store.now() < time) {
            store.tick(Math.min(200, time - store.now()));
        }
        return store;
    }

    /** As many products as there can be; the last one is strong. */
    static ColdStore withTwelveProducts() {
        ColdStore store = working();
        for (int i = 5; i < 12; i++) {
            store.addProduct(i, 100 + i, 10 + i, i % 4);
        }
        return store;
    }

    static ColdStore withSixRooms() {
        ColdStore store = working();
        for (int i = 3; i < 6; i++) {
            store.addRoom(i, i, 10 * i, i);
        }
        return store;
    }

    /** Three full rooms of 20 places, 60 pallets: i of product i % 2, which keep together. */
    static ColdStore withSixtyPallets() {
        ColdStore store = new ColdStore();
        store.addProduct(0, 50, 100, 0);
        store.addProduct(0, 60, 120, 0);
        for (int room = 0; room < 3; room++) {
            store.addRoom(20, 5, 100, 30);
        }
        for (int i = 0; i < 60; i++) {
            store.arrive(i % 2, i / 20, 40);
        }
        return store;
    }

    /** Sixty pallets came and all are gone: places are free, but no more pallets can come. */
    static ColdStore afterSixtyPallets() {
        ColdStore store = withSixtyPallets();
        store.ship(0, 60, 0);
        store.ship(1, 60, 0);
        return store;
    }

    /** A room that stays at 150, as the air outside does: no power, 3 places, wall 1. */
    static ColdStore still(int aim) {
        ColdStore store = new ColdStore();
        store.addRoom(3, 1, 0, aim);
        return store;
    }

    /** Pallets of product 0 suit the still room: they age 1 an hour and change nothing in it. */
    static ColdStore stillWithLife(int life) {
        ColdStore store = still(150);
        store.addProduct(150, 150, life, 0);
        store.arrive(0, 0, 150);
        return store;
    }
}
