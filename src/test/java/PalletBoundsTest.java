/** The boundary cases of promises 10 to 18, sentence by sentence: the last value taken and the first refused. */
public final class PalletBoundsTest {
    public static void main(String[] args) {
        reasonIsBounded();
        reasonIsZeroOrTheFirst();
        productsGoTogetherAsSaid();
        arriveKnowsProductsAndRooms();
        arrivingTemperatureIsBounded();
        arriveNeedsAPlace();
        sixtyPalletsAreTheMost();
        moveKnowsPalletsAndRooms();
        moveNeedsAPlaceElsewhere();
        palletIsBounded();
        palletTellsWhatItWasWhenItLeft();
        bestRoomIsBounded();
        bestRoomDiffersLeast();
        bestRoomIsNone();
        bestRoomOfSeveral();
        shipIsBounded();
        shipTakesWhatHasSoMuchLeft();
        shipTakesAtMostSoMany();
        shipTakesTheLeastFirst();
        spoiledIsBelowZero();
        clearTakesAllOrNone();
        stockIsBounded();
        countIsBounded();
        countsAtTheirEnds();
        Check.end("PalletBoundsTest");
    }

    // ---- promise 10

    private static void reasonIsBounded() {
        Check.sentence("Promise 10", "if there is no such product or room");
        Bounds.index("product of five", 0, 4, () -> Scenes.working(), (s, product) -> s.reason(product, 0));
        Bounds.index("product of twelve", 0, 11, () -> Scenes.withTwelveProducts(), (s, p) -> s.reason(p, 0));
        Bounds.index("room of three", 0, 2, () -> Scenes.working(), (s, room) -> s.reason(0, room));
        Bounds.index("room of six", 0, 5, () -> Scenes.withSixRooms(), (s, room) -> s.reason(0, room));
    }

    private static void reasonIsZeroOrTheFirst() {
        Check.sentence("Promise 10", "Returns 0 if a pallet with this product can be put there; otherwise "
                + "the number of the first reason: 1 no place is free, 2 it does not go together with a pallet there.");
        ColdStore store = smells(2);
        Check.due("reason(3, 0) of an empty room", store.reason(3, 0), 0);
        store.arrive(0, 0, 0);
        Check.due("reason(0, 0) with one place free", store.reason(0, 0), 0);
        Check.due("reason(3, 0) with one place free", store.reason(3, 0), 2);
        store.arrive(0, 0, 0);
        Check.due("reason(0, 0) of a full room", store.reason(0, 0), 1);
        Check.due("reason(3, 0) of a full room", store.reason(3, 0), 1);
        store.ship(0, 1, 0);
        Check.due("reason(0, 0) with one place free again", store.reason(0, 0), 0);
        Check.due("reason(3, 0) with one place free again", store.reason(3, 0), 2);
        store.ship(0, 1, 0);
        Check.due("reason(3, 0) of an empty room again", store.reason(3, 0), 0);
    }

    /** Products 0 to 3 with the smells 0 to 3, and 4 to 7 likewise; a room of so many places. */
    private static ColdStore smells(int places) {
        ColdStore store = new ColdStore();
        for (int i = 0; i < 8; i++) {
            store.addProduct(0, 0, 100, i % 4);
        }
        store.addRoom(places, 1, 0, 0);
        return store;
    }

    private static void productsGoTogetherAsSaid() {
        Check.sentence("Terms", "Two products go together, if they are the same; or if neither is strong, "
                + "and not one of them is smelling and the other one sensitive.");
        int[][] dueOfOthers = {{0, 0, 0, 2}, {0, 0, 2, 2}, {0, 2, 0, 2}, {2, 2, 2, 2}};
        for (int there = 0; there < 4; there++) {
            ColdStore store = smells(2);
            store.arrive(there, 0, 0);
            for (int smell = 0; smell < 4; smell++) {
                int due = there == smell ? 0 : dueOfOthers[there][smell];
                Check.due("reason(" + smell + ", 0) beside " + there, store.reason(smell, 0), due);
                int other = smell + 4;
                Check.due("reason(" + other + ", 0) beside " + there,
                        store.reason(other, 0), dueOfOthers[there][smell]);
            }
        }
        ColdStore store = smells(20);
        for (int i = 0; i < 18; i++) {
            store.arrive(0, 0, 0);
        }
        store.arrive(1, 0, 0);
        Check.due("reason(2, 0) beside many of 0 and the last of 1", store.reason(2, 0), 2);
        Check.due("reason(5, 0) beside many of 0 and the last of 1", store.reason(5, 0), 0);
    }

    // ---- promise 11

    private static void arriveKnowsProductsAndRooms() {
        Check.sentence("Promise 11", "if there is no such product or room");
        Bounds.index("product of five", 0, 4, () -> withFreeRoom(), (s, product) -> s.arrive(product, 3, 0));
        Bounds.index("product of twelve", 0, 11, () -> {
            ColdStore store = Scenes.withTwelveProducts();
            store.addRoom(1, 1, 0, 0);
            return store;
        }, (s, product) -> s.arrive(product, 3, 0));
        Bounds.index("room of three", 0, 2, () -> withRooms(3), (s, room) -> s.arrive(0, room, 0));
        Bounds.index("room of six", 0, 5, () -> withRooms(6), (s, room) -> s.arrive(0, room, 0));
    }

    private static ColdStore withFreeRoom() {
        ColdStore store = Scenes.working();
        store.addRoom(1, 1, 0, 0);
        return store;
    }

    private static ColdStore withRooms(int many) {
        ColdStore store = new ColdStore();
        store.addProduct(0, 50, 100, 0);
        for (int i = 0; i < many; i++) {
            store.addRoom(2, 3, 50 * i % 200, 20);
        }
        store.tick(3);
        return store;
    }

    private static void arrivingTemperatureIsBounded() {
        Check.sentence("Promise 11", "if temperature is not -300 to 400");
        Bounds.argument("temperature", -300, 400, () -> Scenes.working(), (s, warm) -> s.arrive(0, 0, warm));
        ColdStore store = Scenes.working();
        Check.answers("arrive(0, 0, -300)", store, s -> s.arrive(0, 0, -300), 5);
        Check.answers("arrive(0, 0, 400)", store, s -> s.arrive(0, 0, 400), 6);
        Check.due("pallet(5, 1)", store.pallet(5, 1), -300);
        Check.due("pallet(6, 1)", store.pallet(6, 1), 400);
        Check.due("pallet(6, 2), its age at first", store.pallet(6, 2), 0);
    }

    private static void arriveNeedsAPlace() {
        Check.sentence("Promise 11", "if it cannot be put there, or there were 60 pallets");
        Check.refusesState("arrive(3, 2, 0) in a full room", () -> Scenes.working(), s -> s.arrive(3, 2, 0));
        Check.refusesState("arrive(3, 0, 0) beside others", () -> Scenes.working(), s -> s.arrive(3, 0, 0));
        Check.refusesState("arrive(1, 1, 0) beside a sensitive one", () -> Scenes.working(), s -> s.arrive(1, 1, 0));
        Check.takes("arrive(2, 1, 0) beside the same", () -> Scenes.working(), s -> s.arrive(2, 1, 0));
        Check.refusesState("arrive(0, 0, 0) a third time", () -> withTwoMore(), s -> s.arrive(0, 0, 0));
        Check.due("room(0, 4) after two", withTwoMore().room(0, 4), 0);
    }

    private static ColdStore withTwoMore() {
        ColdStore store = Scenes.working();
        Check.answers("arrive(0, 0, 0), two places free", store, s -> s.arrive(0, 0, 0), 5);
        Check.answers("arrive(0, 0, 0), one place free", store, s -> s.arrive(0, 0, 0), 6);
        return store;
    }

    private static void sixtyPalletsAreTheMost() {
        Check.sentence("Terms", "There are at most 60, numbered likewise.");
        ColdStore store = new ColdStore();
        store.addProduct(0, 0, 10, 0);
        for (int room = 0; room < 4; room++) {
            store.addRoom(20, 1, 0, 0);
        }
        for (int i = 0; i < 60; i++) {
            int room = i % 3;
            Check.answers("arrive with " + i + " there", store, s -> s.arrive(0, room, 0), i);
            Check.due("count(2)", store.count(2), i + 1);
        }
        Check.due("reason(0, 3) with 60 there", store.reason(0, 3), 0);
        Check.due("bestRoom(0) with 60 there", store.bestRoom(0), 3);
        Check.sentence("Promise 11", "if it cannot be put there, or there were 60 pallets");
        Check.refusesState("arrive with 60 there", () -> withSixtyAndARoom(), s -> s.arrive(0, 3, 0));
        Check.refusesState("arrive with 60 that are gone", () -> Scenes.afterSixtyPallets(), s -> s.arrive(0, 0, 0));
        Check.refusesState("arrive in a full room with 60", () -> Scenes.withSixtyPallets(), s -> s.arrive(0, 0, 0));
    }

    private static ColdStore withSixtyAndARoom() {
        ColdStore store = Scenes.withSixtyPallets();
        store.addRoom(20, 5, 100, 0);
        return store;
    }

    // ---- promise 12

    private static void moveKnowsPalletsAndRooms() {
        Check.sentence("Promise 12", "if there is no such pallet or room");
        Bounds.index("pallet of two", 0, 1, () -> withTwoToMove(), (s, pallet) -> s.move(pallet, 0));
        Bounds.index("pallet of sixty", 0, 59, () -> withSixtyAndARoom(), (s, pallet) -> s.move(pallet, 3));
        Bounds.index("room of three", 0, 2, () -> withTwoToMove(), (s, room) -> s.move(0, room));
        Bounds.index("room of six", 0, 5, () -> withThreeMoreRooms(), (s, room) -> s.move(0, room));
    }

    /** Both are in room 1, from where they can be moved to the first room and to the last. */
    private static ColdStore withTwoToMove() {
        ColdStore store = withRooms(3);
        store.arrive(0, 1, 100);
        store.arrive(0, 1, -100);
        store.tick(2);
        return store;
    }

    private static ColdStore withThreeMoreRooms() {
        ColdStore store = withTwoToMove();
        for (int i = 0; i < 3; i++) {
            store.addRoom(1, 1, 0, 0);
        }
        return store;
    }

    private static void moveNeedsAPlaceElsewhere() {
        Check.sentence("Promise 12", "if it is gone, is there already, or cannot be put there");
        Check.refusesState("move(4, 1), shipped", () -> Scenes.working(), s -> s.move(4, 1));
        Check.refusesState("move(4, 0), shipped from there", () -> Scenes.working(), s -> s.move(4, 0));
        Check.refusesState("move(1, 1), thrown away", () -> afterClear(), s -> s.move(1, 1));
        Check.refusesState("move(0, 0), there with free places", () -> Scenes.working(), s -> s.move(0, 0));
        Check.refusesState("move(3, 2), there in a full room", () -> Scenes.working(), s -> s.move(3, 2));
        Check.refusesState("move(0, 2) to a full room", () -> Scenes.working(), s -> s.move(0, 2));
        Check.refusesState("move(3, 0) beside others", () -> Scenes.working(), s -> s.move(3, 0));
        Check.refusesState("move(5, 1), smelling, beside a sensitive one", () -> withSmellingOne(), s -> s.move(5, 1));
        Check.sentence("Promise 12", "Returns the room where it was.");
        ColdStore store = withTwoToMove();
        store.arrive(0, 2, 0);
        Check.answers("move(0, 2) to the last place", store, s -> s.move(0, 2), 1);
        Check.due("pallet(0, 3)", store.pallet(0, 3), 2);
        Check.due("room(1, 4)", store.room(1, 4), 1);
        Check.due("room(2, 4)", store.room(2, 4), 0);
        Check.answers("move(2, 1) to the last place", store, s -> s.move(2, 1), 2);
        Check.answers("move(1, 2) from a full room", store, s -> s.move(1, 2), 1);
        Check.answers("move(1, 0)", store, s -> s.move(1, 0), 2);
        ColdStore spoiled = Scenes.working();
        Check.answers("move(1, 1), spoiled", spoiled, s -> s.move(1, 1), 0);
    }

    private static ColdStore afterClear() {
        ColdStore store = Scenes.working();
        store.clear();
        return store;
    }

    private static ColdStore withSmellingOne() {
        ColdStore store = Scenes.working();
        store.arrive(1, 0, 0);
        return store;
    }

    // ---- promise 13

    private static void palletIsBounded() {
        Check.sentence("Promise 13", "if there is no such pallet, or what is not 0 to 4");
        Bounds.index("pallet of five", 0, 4, () -> Scenes.working(), (s, pallet) -> s.pallet(pallet, 0));
        Bounds.index("pallet of sixty", 0, 59, () -> Scenes.withSixtyPallets(), (s, pallet) -> s.pallet(pallet, 4));
        Bounds.index("what", 0, 4, () -> Scenes.working(), (s, what) -> s.pallet(0, what));
        Bounds.index("what of one that is gone", 0, 4, () -> Scenes.working(), (s, what) -> s.pallet(4, what));
    }

    private static void palletTellsWhatItWasWhenItLeft() {
        Check.sentence("Promise 13", "0 its product, 1 its temperature, 2 its age, 3 its room, -1 if it is gone, "
                + "4 what is left of it");
        ColdStore store = Scenes.still(150);
        store.addProduct(150, 150, 10, 0);
        store.addProduct(150, 150, 10, 0);
        store.arrive(0, 0, 150);
        store.arrive(1, 0, 142);
        store.tick(10);
        dueFacts(store, 0, new int[] {0, 150, 10, 0, 0});
        dueFacts(store, 1, new int[] {1, 143, 10, 0, 0});
        Check.sentence("Promise 13", "Returns this (what it was when it left, if it is gone).");
        store.ship(1, 1, 0);
        dueFacts(store, 1, new int[] {1, 143, 10, -1, 0});
        store.tick(1);
        dueFacts(store, 1, new int[] {1, 143, 10, -1, 0});
        dueFacts(store, 0, new int[] {0, 150, 11, 0, -1});
        store.clear();
        store.tick(1);
        dueFacts(store, 0, new int[] {0, 150, 11, -1, -1});
    }

    private static void dueFacts(ColdStore store, int pallet, int[] due) {
        for (int what = 0; what <= 4; what++) {
            Check.due("pallet(" + pallet + ", " + what + ") at " + store.now(), store.pallet(pallet, what), due[what]);
        }
    }

    // ---- promise 14

    private static void bestRoomIsBounded() {
        Check.sentence("Promise 14", "if there is no such product");
        Bounds.index("product of five", 0, 4, () -> Scenes.working(), (s, product) -> s.bestRoom(product));
        Bounds.index("product of twelve", 0, 11, () -> Scenes.withTwelveProducts(), (s, p) -> s.bestRoom(p));
    }

    /** Room 0 has more places than room 1, which therefore has to suit better. */
    private static ColdStore withAims(int first, int second) {
        ColdStore store = new ColdStore();
        store.addProduct(-10, 20, 100, 0);
        store.addRoom(3, 1, 0, first);
        store.addRoom(2, 1, 0, second);
        return store;
    }

    private static void bestRoomDiffersLeast() {
        Check.sentence("Promise 14", "the one whose aim differs least from what suits it (0 if it suits it)");
        int[][] due = {
            {-11, -10, 1}, {-11, -11, 0}, {21, 20, 1}, {21, 21, 0}, {-10, 5, 0}, {20, 5, 0}, {-10, 20, 0},
            {-12, -11, 1}, {22, 21, 1}, {-12, 21, 1}, {22, -11, 1}, {-11, 21, 0}, {21, -11, 0}, {-12, 22, 0},
            {-300, 150, 1}, {-300, -300, 0}, {150, -139, 1}, {150, -140, 0}, {150, -141, 0}};
        for (int[] row : due) {
            Check.due("bestRoom(0) of aims " + row[0] + " and " + row[1],
                    withAims(row[0], row[1]).bestRoom(0), row[2]);
        }
        ColdStore store = withAims(0, 100);
        store.setRoom(0, 101, false);
        Check.due("bestRoom(0) after setRoom", store.bestRoom(0), 1);
    }

    private static void bestRoomIsNone() {
        Check.sentence("Promise 14", "-1 if there is none");
        ColdStore store = smells(1);
        Check.due("bestRoom(0) with one place free", store.bestRoom(0), 0);
        store.arrive(0, 0, 0);
        Check.due("bestRoom(0) without a free place", store.bestRoom(0), -1);
        store.addRoom(2, 1, 0, 0);
        Check.due("bestRoom(0) with two places free", store.bestRoom(0), 1);
        store.arrive(3, 1, 0);
        Check.due("bestRoom(3) beside itself", store.bestRoom(3), 1);
        Check.due("bestRoom(0) beside a strong one alone", store.bestRoom(0), -1);
        ColdStore empty = new ColdStore();
        empty.addProduct(0, 0, 10, 0);
        Check.due("bestRoom(0) without rooms", empty.bestRoom(0), -1);
    }

    private static void bestRoomOfSeveral() {
        Check.sentence("Promise 14", "of several the one with the most free places, then with the smallest number");
        ColdStore store = new ColdStore();
        store.addProduct(0, 20, 100, 0);
        int[] places = {1, 2, 3, 3, 2, 20};
        for (int room = 0; room < 6; room++) {
            store.addRoom(places[room], 1, 0, room == 5 ? 21 : 5 * room);
        }
        int[] due = {2, 3, 1, 2, 3, 4, 0, 1, 2, 3, 4};
        for (int i = 0; i < due.length; i++) {
            int best = store.bestRoom(0);
            Check.due("bestRoom(0) with " + i + " pallets", best, due[i]);
            Check.due("arrive in it", store.arrive(0, best, 10), i);
        }
        Check.due("bestRoom(0) with those that suit it full", store.bestRoom(0), 5);
    }

    // ---- promise 15

    private static void shipIsBounded() {
        Check.sentence("Promise 15", "if there is no such product");
        Bounds.index("product of five", 0, 4, () -> Scenes.working(), (s, product) -> s.ship(product, 1, 0));
        Bounds.index("product of twelve", 0, 11, () -> Scenes.withTwelveProducts(), (s, p) -> s.ship(p, 1, 0));
        Check.sentence("Promise 15", "if many is not 1 to 60, or least is less than 0");
        Bounds.argument("many", 1, 60, () -> Scenes.working(), (s, many) -> s.ship(0, many, 0));
        Bounds.argument("least", 0, Integer.MAX_VALUE, () -> Scenes.working(), (s, least) -> s.ship(0, 1, least));
        Check.refusesArgument("ship(0, 0, -1)", () -> Scenes.working(), s -> s.ship(0, 0, -1));
    }

    private static void shipTakesWhatHasSoMuchLeft() {
        Check.sentence("Promise 15", "of which at least so much is left");
        int[][] due = {{0, 1}, {1, 1}, {9, 1}, {10, 1}, {11, 0}, {12, 0}, {Integer.MAX_VALUE, 0}};
        for (int[] row : due) {
            ColdStore store = Scenes.stillWithLife(15);
            store.tick(5);
            int least = row[0];
            Check.answers("ship(0, 1, " + least + ") with 10 left", store, s -> s.ship(0, 1, least), row[1]);
            Check.due("pallet(0, 3) after it", store.pallet(0, 3), row[1] == 1 ? -1 : 0);
            Check.due("count(4) after it", store.count(4), row[1]);
        }
    }

    private static void shipTakesAtMostSoMany() {
        Check.sentence("Promise 15", "how many at most");
        int[][] due = {{1, 1}, {29, 29}, {30, 30}, {31, 30}, {60, 30}};
        for (int[] row : due) {
            ColdStore store = Scenes.withSixtyPallets();
            Check.answers("ship(1, " + row[0] + ", 0) of 30", store, s -> s.ship(1, row[0], 0), row[1]);
            Check.due("count(3) after it", store.count(3), 60 - row[1]);
            Check.due("stock(0, false) after it", store.stock(0, false), 30);
            Check.due("stock(1, false) after it", store.stock(1, false), 30 - row[1]);
        }
        int[] many = {59, 60};
        for (int most : many) {
            ColdStore store = sixtyOfOne();
            Check.answers("ship(0, " + most + ", 0) of 60", store, s -> s.ship(0, most, 0), most);
            Check.due("count(3) after it", store.count(3), 60 - most);
            Check.due("pallet(59, 3) after it", store.pallet(59, 3), most == 60 ? -1 : 2);
            Check.due("count(4) after it", store.count(4), most);
        }
        Check.sentence("Promise 15", "Returns how many were shipped.");
        Check.due("ship(0, 60, 0) of none", Scenes.afterSixtyPallets().ship(0, 60, 0), 0);
    }

    private static ColdStore sixtyOfOne() {
        ColdStore store = new ColdStore();
        store.addProduct(0, 50, 100, 0);
        for (int i = 0; i < 60; i++) {
            if (i % 20 == 0) {
                store.addRoom(20, 5, 100, 30);
            }
            store.arrive(0, i / 20, 40);
        }
        return store;
    }

    private static void shipTakesTheLeastFirst() {
        Check.sentence("Promise 15", "of these the one of which least is left first, "
                + "of several the one with the smallest number, and so on");
        ColdStore store = Scenes.still(150);
        store.addRoom(5, 1, 0, 150);
        store.addProduct(150, 150, 20, 0);
        // those at 120 warm to 123 in an hour, are 27 too cold and age 2 more for it
        int[][] pallets = {{1, 150}, {0, 120}, {1, 150}, {0, 150}, {1, 120}};
        for (int[] row : pallets) {
            store.arrive(0, row[0], row[1]);
        }
        store.tick(1);
        int[] left = {19, 17, 19, 19, 17};
        for (int i = 0; i < left.length; i++) {
            Check.due("pallet(" + i + ", 4)", store.pallet(i, 4), left[i]);
        }
        int[] order = {1, 4, 0, 2, 3};
        for (int i = 0; i < order.length; i++) {
            Check.due("ship(0, 1, 0) the " + i + ". time", store.ship(0, 1, 0), 1);
            for (int j = 0; j < order.length; j++) {
                Check.due("pallet(" + order[j] + ", 3) < 0", store.pallet(order[j], 3) < 0 ? 1 : 0, j <= i ? 1 : 0);
            }
        }
        Check.due("ship(0, 1, 0) of none", store.ship(0, 1, 0), 0);
    }

    // ---- promises 15 to 17: spoiled

    private static ColdStore withLeft(int left) {
        ColdStore store = Scenes.stillWithLife(10);
        store.tick(10 - left);
        Check.due("pallet(0, 4)", store.pallet(0, 4), left);
        return store;
    }

    private static void spoiledIsBelowZero() {
        Check.sentence("Terms", "it is spoiled, if this is less than 0.");
        for (int left = 1; left >= -2; left--) {
            int spoiled = left < 0 ? 1 : 0;
            String with = " with " + left + " left";
            Check.due("stock(0, true)" + with, withLeft(left).stock(0, true), spoiled);
            Check.due("stock(0, false)" + with, withLeft(left).stock(0, false), 1 - spoiled);
            Check.due("clear()" + with, withLeft(left).clear(), spoiled);
            Check.due("ship(0, 60, 0)" + with, withLeft(left).ship(0, 60, 0), 1 - spoiled);
            Check.due("lasts(0) == 0" + with, withLeft(left).lasts(0) == 0 ? 1 : 0, spoiled);
            Check.due("tick(1)" + with, withLeft(left).tick(1), left == 0 ? 1 : 0);
            Check.due("count(3)" + with, withLeft(left).count(3), 1);
            Check.due("room(0, 4)" + with, withLeft(left).room(0, 4), 2);
        }
    }

    // ---- promises 16 to 18

    private static void clearTakesAllOrNone() {
        Check.sentence("Promise 16", "Throws all spoiled pallets away; they are gone.");
        ColdStore store = sixtyOfOne();
        store.tick(200);
        Check.due("stock(0, true)", store.stock(0, true), 60);
        Check.due("clear()", store.clear(), 60);
        Check.due("count(3) after it", store.count(3), 0);
        Check.due("count(4) after it", store.count(4), 0);
        Check.due("pallet(59, 3) after it", store.pallet(59, 3), -1);
        Check.due("clear() again", store.clear(), 0);
        ColdStore working = Scenes.working();
        Check.due("clear() of one", working.clear(), 1);
        Check.due("pallet(1, 3)", working.pallet(1, 3), -1);
        Check.due("count(3)", working.count(3), 3);
        Check.due("room(0, 4)", working.room(0, 4), 3);
    }

    private static void stockIsBounded() {
        Check.sentence("Promise 17", "if there is no such product");
        Bounds.index("product of five", 0, 4, () -> Scenes.working(), (s, product) -> s.stock(product, false));
        Bounds.index("product of twelve", 0, 11, () -> Scenes.withTwelveProducts(), (s, p) -> s.stock(p, true));
        Check.sentence("Promise 17", "Returns how many pallets of it there are that are not gone.");
        int[] good = {1, 0, 1, 1, 0};
        int[] spoiled = {0, 0, 0, 0, 1};
        for (int product = 0; product < 5; product++) {
            ColdStore store = Scenes.working();
            Check.due("stock(" + product + ", false)", store.stock(product, false), good[product]);
            Check.due("stock(" + product + ", true)", store.stock(product, true), spoiled[product]);
        }
        Check.due("stock(0, false) of 30", Scenes.withSixtyPallets().stock(0, false), 30);
        Check.due("stock(0, false) of 30 that are gone", Scenes.afterSixtyPallets().stock(0, false), 0);
        Check.due("stock(0, true) of 30 that are gone", Scenes.afterSixtyPallets().stock(0, true), 0);
    }

    private static void countIsBounded() {
        Check.sentence("Promise 18", "if what is not 0 to 4");
        Bounds.index("what", 0, 4, () -> Scenes.working(), (s, what) -> s.count(what));
        Bounds.index("what of an empty store", 0, 4, ColdStore::new, (s, what) -> s.count(what));
    }

    private static void countsAtTheirEnds() {
        Check.sentence("Promise 18", "0 products, 1 rooms, 2 pallets that came so far, 3 pallets that are not gone, "
                + "4 pallets that were shipped");
        dueCounts("working", Scenes.working(), new int[] {5, 3, 5, 4, 1});
        dueCounts("working, cleared", afterClear(), new int[] {5, 3, 5, 3, 1});
        dueCounts("full of products", Scenes.withTwelveProducts(), new int[] {12, 3, 5, 4, 1});
        dueCounts("full of rooms", Scenes.withSixRooms(), new int[] {5, 6, 5, 4, 1});
        dueCounts("full of pallets", Scenes.withSixtyPallets(), new int[] {2, 3, 60, 60, 0});
        dueCounts("empty after sixty", Scenes.afterSixtyPallets(), new int[] {2, 3, 60, 0, 60});
    }

    private static void dueCounts(String name, ColdStore store, int[] due) {
        for (int what = 0; what <= 4; what++) {
            Check.due("count(" + what + ") of a store " + name, store.count(what), due[what]);
        }
    }
}
