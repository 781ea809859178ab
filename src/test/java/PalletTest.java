/** Promises 10 to 18: where pallets can be put, how they come, move and leave. */
public final class PalletTest {
    public static void main(String[] args) {
        reasonKnowsSmells();
        reasonNamesTheFullRoomFirst();
        reasonCountsSpoiledPalletsToo();
        wrongReasonsAreRefused();
        arriveNumbersPallets();
        wrongArrivalsAreRefused();
        sixtyPalletsAreTheMost();
        moveAnswersTheRoomBefore();
        wrongMovesAreRefused();
        palletTellsItsFacts();
        goneTellsWhatItWas();
        wrongFactsAreRefused();
        bestRoomSuitsBest();
        bestRoomOfSeveral();
        shipTakesLeastLeftFirst();
        shipLeavesSpoiledAndTooOld();
        wrongShipmentsAreRefused();
        clearThrowsSpoiledAway();
        stockCountsEachKind();
        countTellsEach();
        Check.end("PalletTest");
    }

    /** Rooms that stay at 150: no power, the air outside as warm. */
    private static ColdStore still() {
        ColdStore store = new ColdStore();
        store.addProduct(150, 150, 10, 0);
        store.addProduct(150, 150, 20, 1);
        store.addProduct(150, 150, 30, 2);
        store.addProduct(150, 150, 40, 3);
        store.addProduct(150, 150, 50, 3);
        store.addProduct(150, 150, 60, 1);
        store.addRoom(2, 1, 0, 150);
        store.addRoom(20, 1, 0, 150);
        store.addRoom(3, 1, 0, 150);
        return store;
    }

    /** Room 0 is full; pallet 2, smelling, is in room 1; pallet 3 is gone; room 2 is empty. */
    private static ColdStore inUse() {
        ColdStore store = still();
        store.arrive(0, 0, 150);
        store.tick(3);
        store.arrive(0, 0, 100);
        store.arrive(1, 1, 150);
        store.tick(2);
        store.arrive(0, 1, 150);
        store.ship(0, 1, 6);
        return store;
    }

    private static void reasonKnowsSmells() {
        // 0 neutral, 1 smelling, 2 sensitive, 3 strong, 4 strong too, 5 smelling too
        int[][] due = {
            {0, 0, 0, 2, 2, 0},
            {0, 0, 2, 2, 2, 0},
            {0, 2, 0, 2, 2, 2},
            {2, 2, 2, 0, 2, 2},
            {2, 2, 2, 2, 0, 2},
            {0, 0, 2, 2, 2, 0},
        };
        for (int there = 0; there < 6; there++) {
            ColdStore store = still();
            store.arrive(there, 2, 0);
            for (int product = 0; product < 6; product++) {
                Check.due("reason(" + product + ", 2) beside " + there,
                        store.reason(product, 2), due[there][product]);
                Check.due("reason(" + product + ", 1) beside none", store.reason(product, 1), 0);
            }
        }
        ColdStore store = still();
        store.arrive(0, 2, 0);
        store.arrive(2, 2, 0);
        Check.due("reason(1, 2) beside 0 and 2", store.reason(1, 2), 2);
        Check.due("reason(0, 2) beside 0 and 2", store.reason(0, 2), 0);
    }

    private static void reasonNamesTheFullRoomFirst() {
        ColdStore store = still();
        store.arrive(3, 0, 0);
        Check.due("reason(0, 0) with a free place", store.reason(0, 0), 2);
        store.arrive(3, 0, 0);
        Check.due("reason(0, 0) of a full room", store.reason(0, 0), 1);
        Check.due("reason(3, 0) of a full room", store.reason(3, 0), 1);
        store.ship(3, 1, 0);
        Check.due("reason(3, 0) after one left", store.reason(3, 0), 0);
    }

    private static void reasonCountsSpoiledPalletsToo() {
        ColdStore store = still();
        store.arrive(2, 0, 150);
        store.tick(31);
        Check.due("stock(2, true)", store.stock(2, true), 1);
        Check.due("reason(1, 0) beside a spoiled one", store.reason(1, 0), 2);
        store.clear();
        Check.due("reason(1, 0) after it left", store.reason(1, 0), 0);
    }

    private static void wrongReasonsAreRefused() {
        Check.refusesIndex("reason(-1, 0)", () -> inUse(), s -> s.reason(-1, 0));
        Check.refusesIndex("reason(6, 0)", () -> inUse(), s -> s.reason(6, 0));
        Check.refusesIndex("reason(12, 0)", () -> inUse(), s -> s.reason(12, 0));
        Check.refusesIndex("reason(0, -1)", () -> inUse(), s -> s.reason(0, -1));
        Check.refusesIndex("reason(0, 3)", () -> inUse(), s -> s.reason(0, 3));
    }

    private static void arriveNumbersPallets() {
        ColdStore store = still();
        Check.due("arrive(0, 0, -300)", store.arrive(0, 0, -300), 0);
        Check.due("arrive(0, 1, 400)", store.arrive(0, 1, 400), 1);
        Check.due("arrive(3, 2, 0)", store.arrive(3, 2, 0), 2);
        Check.due("pallet(0, 1)", store.pallet(0, 1), -300);
        Check.due("pallet(1, 1)", store.pallet(1, 1), 400);
        Check.due("pallet(2, 0)", store.pallet(2, 0), 3);
        Check.due("pallet(2, 3)", store.pallet(2, 3), 2);
        Check.due("room(0, 4)", store.room(0, 4), 1);
        store.ship(3, 1, 0);
        Check.due("arrive after one left", store.arrive(3, 2, 0), 3);
    }

    private static void wrongArrivalsAreRefused() {
        Check.refusesIndex("arrive(-1, 1, 0)", () -> inUse(), s -> s.arrive(-1, 1, 0));
        Check.refusesIndex("arrive(6, 1, 0)", () -> inUse(), s -> s.arrive(6, 1, 0));
        Check.refusesIndex("arrive(0, -1, 0)", () -> inUse(), s -> s.arrive(0, -1, 0));
        Check.refusesIndex("arrive(0, 3, 401)", () -> inUse(), s -> s.arrive(0, 3, 401));
        Check.refusesArgument("arrive(0, 1, 401)", () -> inUse(), s -> s.arrive(0, 1, 401));
        Check.refusesArgument("arrive(0, 1, -301)", () -> inUse(), s -> s.arrive(0, 1, -301));
        Check.refusesArgument("arrive(3, 1, 401) beside 1", () -> inUse(), s -> s.arrive(3, 1, 401));
        Check.refusesState("arrive(3, 1, 0) beside 1", () -> inUse(), s -> s.arrive(3, 1, 0));
        Check.refusesState("arrive(0, 0, 0) in a full room", () -> inUse(), s -> s.arrive(0, 0, 0));
        Check.refusesArgument("arrive(0, 0, 401) in a full room", () -> inUse(), s -> s.arrive(0, 0, 401));
    }

    private static ColdStore withSixty() {
        ColdStore store = still();
        for (int i = 0; i < 60; i++) {
            Check.due("arrive the " + i + ". time", store.arrive(0, 1, 150), i);
            if (i % 10 == 9) {
                store.ship(0, 60, 0);
            }
        }
        return store;
    }

    private static void sixtyPalletsAreTheMost() {
        ColdStore store = withSixty();
        Check.due("count(2)", store.count(2), 60);
        Check.due("count(3)", store.count(3), 0);
        Check.due("count(4)", store.count(4), 60);
        Check.due("reason(0, 1) after sixty", store.reason(0, 1), 0);
        Check.due("bestRoom(0) after sixty", store.bestRoom(0), 1);
        Check.refusesState("arrive the 61.", () -> withSixty(), s -> s.arrive(0, 1, 0));
        Check.refusesArgument("arrive the 61., wrong", () -> withSixty(), s -> s.arrive(0, 1, 401));
    }

    private static void moveAnswersTheRoomBefore() {
        ColdStore store = still();
        store.arrive(0, 0, 70);
        store.arrive(3, 2, 70);
        store.tick(1);
        Check.due("move(0, 1)", store.move(0, 1), 0);
        Check.due("pallet(0, 3)", store.pallet(0, 3), 1);
        Check.due("pallet(0, 1)", store.pallet(0, 1), 79);
        Check.due("pallet(0, 2)", store.pallet(0, 2), 8);
        Check.due("room(0, 4)", store.room(0, 4), 2);
        Check.due("room(1, 4)", store.room(1, 4), 19);
        Check.due("move(1, 0)", store.move(1, 0), 2);
        Check.due("move(1, 2)", store.move(1, 2), 0);
        store.tick(1);
        Check.due("room(0, 0), where it was", store.room(0, 0), 148);
        Check.due("room(1, 0), cooled by it", store.room(1, 0), 149);
        Check.due("pallet(0, 1) warmed there", store.pallet(0, 1), 87);
        Check.due("move(0, 0)", store.move(0, 0), 1);
        Check.due("room(0, 4) again", store.room(0, 4), 1);
    }

    private static void wrongMovesAreRefused() {
        Check.refusesIndex("move(-1, 0)", () -> inUse(), s -> s.move(-1, 0));
        Check.refusesIndex("move(4, 0)", () -> inUse(), s -> s.move(4, 0));
        Check.refusesIndex("move(60, 0)", () -> inUse(), s -> s.move(60, 0));
        Check.refusesIndex("move(3, -1)", () -> inUse(), s -> s.move(3, -1));
        Check.refusesIndex("move(3, 3)", () -> inUse(), s -> s.move(3, 3));
        Check.refusesState("move(3, 2) of one that is gone", () -> inUse(), s -> s.move(3, 2));
        Check.refusesState("move(3, 1) of one that was there", () -> inUse(), s -> s.move(3, 1));
        Check.refusesState("move(2, 1) to where it is", () -> inUse(), s -> s.move(2, 1));
        Check.refusesState("move(2, 2) beside a sensitive one", () -> {
            ColdStore store = inUse();
            store.arrive(2, 2, 0);
            return store;
        }, s -> s.move(2, 2));
        Check.refusesState("move(2, 0) to a full room", () -> inUse(), s -> s.move(2, 0));
        Check.refusesState("move(0, 0) in a full room", () -> inUse(), s -> s.move(0, 0));
        Check.due("pallet(3, 3) of the one that is gone", inUse().pallet(3, 3), -1);
    }

    private static void palletTellsItsFacts() {
        ColdStore store = still();
        store.arrive(1, 2, 70);
        int[] first = {1, 70, 0, 2, 20};
        for (int what = 0; what < 5; what++) {
            Check.due("pallet(0, " + what + ") at first", store.pallet(0, what), first[what]);
        }
        store.tick(1);
        // the room: 150 + (70 - 150) / 40 = 148; the pallet: 70 + 78 / 8 = 79; 71 / 10 = 7 too cold
        int[] later = {1, 79, 8, 2, 12};
        for (int what = 0; what < 5; what++) {
            Check.due("pallet(0, " + what + ") later", store.pallet(0, what), later[what]);
        }
        Check.due("room(2, 0)", store.room(2, 0), 148);
    }

    private static void goneTellsWhatItWas() {
        ColdStore store = still();
        store.arrive(1, 2, 70);
        store.tick(1);
        store.ship(1, 1, 0);
        store.tick(20);
        int[] due = {1, 79, 8, -1, 12};
        for (int what = 0; what < 5; what++) {
            Check.due("pallet(0, " + what + ") after it left", store.pallet(0, what), due[what]);
        }
        Check.due("room(2, 4) after it left", store.room(2, 4), 3);
    }

    private static void wrongFactsAreRefused() {
        Check.refusesIndex("pallet(-1, 0)", () -> inUse(), s -> s.pallet(-1, 0));
        Check.refusesIndex("pallet(4, 0)", () -> inUse(), s -> s.pallet(4, 0));
        Check.refusesIndex("pallet(60, 0)", () -> withSixty(), s -> s.pallet(60, 0));
        Check.refusesIndex("pallet(0, -1)", () -> inUse(), s -> s.pallet(0, -1));
        Check.refusesIndex("pallet(0, 5)", () -> inUse(), s -> s.pallet(0, 5));
    }

    private static void bestRoomSuitsBest() {
        ColdStore store = new ColdStore();
        store.addProduct(0, 20, 100, 0);
        store.addProduct(0, 20, 100, 3);
        Check.due("bestRoom(0) without rooms", store.bestRoom(0), -1);
        store.addRoom(20, 1, 0, 31);
        Check.due("bestRoom(0) of one", store.bestRoom(0), 0);
        store.addRoom(1, 1, 0, -10);
        Check.due("bestRoom(0) of 31, -10", store.bestRoom(0), 1);
        store.addRoom(1, 1, 0, 29);
        Check.due("bestRoom(0) of 31, -10, 29", store.bestRoom(0), 2);
        store.addRoom(1, 1, 0, 20);
        Check.due("bestRoom(0) with one at 20", store.bestRoom(0), 3);
        store.arrive(0, 3, 0);
        Check.due("bestRoom(0) with that one full", store.bestRoom(0), 2);
        store.setRoom(0, 0, false);
        Check.due("bestRoom(0) with one set to 0", store.bestRoom(0), 0);
        store.arrive(0, 0, 0);
        Check.due("bestRoom(1) with a neutral one there", store.bestRoom(1), 2);
        store.arrive(0, 1, 0);
        store.arrive(0, 2, 0);
        Check.due("bestRoom(1) with none to be put in", store.bestRoom(1), -1);
    }

    private static void bestRoomOfSeveral() {
        ColdStore store = new ColdStore();
        store.addProduct(0, 20, 100, 0);
        store.addRoom(2, 1, 0, 0);
        store.addRoom(3, 1, 0, 20);
        store.addRoom(3, 1, 0, 10);
        store.addRoom(20, 1, 0, 21);
        Check.due("bestRoom(0) of 2, 3, 3 places", store.bestRoom(0), 1);
        store.arrive(0, 1, 0);
        Check.due("bestRoom(0) of 2, 2, 3 places", store.bestRoom(0), 2);
        store.arrive(0, 2, 0);
        Check.due("bestRoom(0) of 2, 2, 2 places", store.bestRoom(0), 0);
        Check.refusesIndex("bestRoom(-1)", () -> inUse(), s -> s.bestRoom(-1));
        Check.refusesIndex("bestRoom(6)", () -> inUse(), s -> s.bestRoom(6));
    }

    private static void shipTakesLeastLeftFirst() {
        ColdStore store = still();
        store.arrive(5, 1, 150);
        store.arrive(5, 1, 150);
        store.tick(4);
        store.arrive(5, 2, 150);
        store.arrive(1, 1, 150);
        store.tick(1);
        store.arrive(5, 1, 70);
        store.tick(1);
        // left: 0 and 1 54, 2 58, 4 52
        Check.due("pallet(4, 4)", store.pallet(4, 4), 52);
        Check.due("ship(5, 1, 0)", store.ship(5, 1, 0), 1);
        Check.due("pallet(4, 3)", store.pallet(4, 3), -1);
        Check.due("ship(5, 1, 54)", store.ship(5, 1, 54), 1);
        Check.due("pallet(0, 3)", store.pallet(0, 3), -1);
        Check.due("pallet(1, 3)", store.pallet(1, 3), 1);
        Check.due("ship(5, 60, 55)", store.ship(5, 60, 55), 1);
        Check.due("pallet(2, 3)", store.pallet(2, 3), -1);
        Check.due("pallet(1, 3) still", store.pallet(1, 3), 1);
        Check.due("pallet(3, 3) of another product", store.pallet(3, 3), 1);
        Check.due("ship(5, 60, most)", store.ship(5, 60, Integer.MAX_VALUE), 0);
        Check.due("ship(5, 60, 0)", store.ship(5, 60, 0), 1);
        Check.due("count(4)", store.count(4), 4);
        Check.due("ship(5, 60, 0) again", store.ship(5, 60, 0), 0);
    }

    private static void shipLeavesSpoiledAndTooOld() {
        ColdStore store = still();
        store.arrive(0, 1, 150);
        store.tick(1);
        store.arrive(0, 1, 150);
        store.tick(9);
        store.arrive(0, 1, 150);
        store.tick(1);
        // left: -1, 0, 9
        Check.due("ship(0, 60, 1)", store.ship(0, 60, 1), 1);
        Check.due("pallet(2, 3)", store.pallet(2, 3), -1);
        Check.due("ship(0, 2, 0)", store.ship(0, 2, 0), 1);
        Check.due("pallet(1, 3)", store.pallet(1, 3), -1);
        Check.due("pallet(0, 3)", store.pallet(0, 3), 1);
        Check.due("count(4)", store.count(4), 2);
    }

    private static void wrongShipmentsAreRefused() {
        Check.refusesIndex("ship(-1, 1, 0)", () -> inUse(), s -> s.ship(-1, 1, 0));
        Check.refusesIndex("ship(6, 0, -1)", () -> inUse(), s -> s.ship(6, 0, -1));
        Check.refusesArgument("ship(0, 0, 0)", () -> inUse(), s -> s.ship(0, 0, 0));
        Check.refusesArgument("ship(0, 61, 0)", () -> inUse(), s -> s.ship(0, 61, 0));
        Check.refusesArgument("ship(0, 1, -1)", () -> inUse(), s -> s.ship(0, 1, -1));
        Check.refusesArgument("ship(0, 1, least)", () -> inUse(), s -> s.ship(0, 1, Integer.MIN_VALUE));
    }

    private static void clearThrowsSpoiledAway() {
        ColdStore store = still();
        store.arrive(0, 0, 150);
        store.arrive(0, 1, 150);
        store.arrive(1, 1, 150);
        store.tick(10);
        Check.due("clear() at nothing left", store.clear(), 0);
        store.tick(1);
        Check.due("clear()", store.clear(), 2);
        Check.due("clear() again", store.clear(), 0);
        Check.due("pallet(0, 3)", store.pallet(0, 3), -1);
        Check.due("pallet(1, 3)", store.pallet(1, 3), -1);
        Check.due("pallet(2, 3)", store.pallet(2, 3), 1);
        Check.due("room(0, 4)", store.room(0, 4), 2);
        Check.due("count(3)", store.count(3), 1);
        Check.due("count(4)", store.count(4), 0);
    }

    private static void stockCountsEachKind() {
        ColdStore store = still();
        store.arrive(0, 0, 150);
        store.tick(1);
        store.arrive(0, 0, 150);
        store.arrive(0, 1, 150);
        store.arrive(1, 1, 150);
        store.tick(10);
        Check.due("stock(0, true)", store.stock(0, true), 1);
        Check.due("stock(0, false)", store.stock(0, false), 2);
        Check.due("stock(1, true)", store.stock(1, true), 0);
        Check.due("stock(1, false)", store.stock(1, false), 1);
        Check.due("stock(2, false)", store.stock(2, false), 0);
        store.ship(0, 1, 0);
        store.clear();
        Check.due("stock(0, true) later", store.stock(0, true), 0);
        Check.due("stock(0, false) later", store.stock(0, false), 1);
        Check.refusesIndex("stock(-1, true)", () -> inUse(), s -> s.stock(-1, true));
        Check.refusesIndex("stock(6, false)", () -> inUse(), s -> s.stock(6, false));
    }

    private static void countTellsEach() {
        ColdStore store = still();
        store.arrive(0, 0, 150);
        store.arrive(1, 1, 150);
        store.arrive(5, 1, 150);
        store.ship(1, 1, 0);
        store.tick(11);
        store.clear();
        int[] due = {6, 3, 3, 1, 1};
        for (int what = 0; what < 5; what++) {
            Check.due("count(" + what + ")", store.count(what), due[what]);
        }
        Check.refusesIndex("count(-1)", () -> inUse(), s -> s.count(-1));
        Check.refusesIndex("count(5)", () -> inUse(), s -> s.count(5));
    }
}
