/** The boundary cases of promises 1 to 9, sentence by sentence: the last value taken and the first refused. */
public final class SettingBoundsTest {
    public static void main(String[] args) {
        newStoreHasNothing();
        newStoreHasNothingToAskFor();
        outsideIsBounded();
        setOutsideAnswersThisHour();
        hourIsBounded();
        priceIsBounded();
        pricesChangeFromFirstToLastHour();
        setPriceAnswersTheLowestOfAll();
        productIsBounded();
        extremeProductsAreTakenAsSaid();
        twelveProductsAreTheMost();
        roomIsBounded();
        extremeRoomsAreTakenAsSaid();
        roomsHaveAsManyPlacesAsSaid();
        sixRoomsAreTheMost();
        setRoomIsBounded();
        setRoomAnswersTheAimBefore();
        defrostKnowsItsRooms();
        defrostIsRefusedForThreeHours();
        defrostAnswersTheFrost();
        factsAreBounded();
        factsAtTheirEnds();
        Check.end("SettingBoundsTest");
    }

    // ---- promise 1

    private static void newStoreHasNothing() {
        Check.sentence("Promise 1", "Creates a store without products, rooms and pallets.");
        ColdStore store = new ColdStore();
        for (int what = 0; what <= 4; what++) {
            Check.due("count(" + what + ")", store.count(what), 0);
        }
        Check.due("now()", store.now(), 0);
        Check.due("paid()", store.paid(), 0);
        Check.due("clear()", store.clear(), 0);
        Check.due("setPrice(0, 0, 100)", store.setPrice(0, 0, 100), 10);
        Check.due("outside(14)", store.outside(14), 150);
        Check.due("digest() of eight numbers that are 0 behind 349",
                new ColdStore().digest(), 349L * 31 * 31 * 31 * 31 * 31 * 31 * 31);
    }

    private static ColdStore withProductAlone() {
        ColdStore store = new ColdStore();
        store.addProduct(0, 0, 10, 0);
        return store;
    }

    private static ColdStore withRoomAlone() {
        return Scenes.still(150);
    }

    private static void newStoreHasNothingToAskFor() {
        Check.sentence("Promise 1", "Creates a store without products, rooms and pallets.");
        Check.refusesIndex("setRoom(0, 0, true)", ColdStore::new, s -> s.setRoom(0, 0, true));
        Check.refusesIndex("defrost(0)", ColdStore::new, s -> s.defrost(0));
        Check.refusesIndex("room(0, 0)", ColdStore::new, s -> s.room(0, 0));
        Check.refusesIndex("foretell(0, 0)", ColdStore::new, s -> s.foretell(0, 0));
        Check.refusesIndex("bestRoom(0)", ColdStore::new, s -> s.bestRoom(0));
        Check.refusesIndex("ship(0, 1, 0)", ColdStore::new, s -> s.ship(0, 1, 0));
        Check.refusesIndex("stock(0, false)", ColdStore::new, s -> s.stock(0, false));
        Check.refusesIndex("stock(0, true)", ColdStore::new, s -> s.stock(0, true));
        Check.refusesIndex("freshness(0)", ColdStore::new, s -> s.freshness(0));
        Check.refusesIndex("pallet(0, 0)", ColdStore::new, s -> s.pallet(0, 0));
        Check.refusesIndex("lasts(0)", ColdStore::new, s -> s.lasts(0));
        Check.refusesIndex("move(0, 0)", () -> withRoomAlone(), s -> s.move(0, 0));
        Check.refusesIndex("reason(0, 0) without rooms", () -> withProductAlone(), s -> s.reason(0, 0));
        Check.refusesIndex("reason(0, 0) without products", () -> withRoomAlone(), s -> s.reason(0, 0));
        Check.refusesIndex("arrive(0, 0, 0) without rooms", () -> withProductAlone(), s -> s.arrive(0, 0, 0));
        Check.refusesIndex("arrive(0, 0, 0) without products", () -> withRoomAlone(), s -> s.arrive(0, 0, 0));
    }

    // ---- promises 2 and 3

    private static void outsideIsBounded() {
        Check.sentence("Promise 2", "if base is not -300 to 400, or swing is not 0 to 200");
        Bounds.argument("base", -300, 400, () -> Scenes.working(), (s, base) -> s.setOutside(base, 50));
        Bounds.argument("swing", 0, 200, () -> Scenes.working(), (s, swing) -> s.setOutside(50, swing));
        Check.refusesArgument("setOutside(-301, 201)", () -> Scenes.working(), s -> s.setOutside(-301, 201));
        int[][] due = {{-300, 0, -300}, {-300, 200, -100}, {400, 0, 400}, {400, 200, 600}};
        for (int[] row : due) {
            ColdStore store = new ColdStore();
            String name = "(" + row[0] + ", " + row[1] + ")";
            Check.answers("setOutside" + name, store, s -> s.setOutside(row[0], row[1]), row[0]);
            Check.due("outside(14) of " + name, store.outside(14), row[2]);
        }
    }

    private static void setOutsideAnswersThisHour() {
        Check.sentence("Promise 2", "Returns the temperature outside at this hour then.");
        int[] hours = {0, 1, 7, 8, 9, 14, 19, 20, 21, 22, 23, 24, 25, 31, 32, 33, 38, 47, 48, 57};
        int[] due = {5, 5, 5, 5, 6, 16, 6, 5, 5, 5, 5, 5, 5, 5, 5, 6, 16, 5, 5, 6};
        for (int i = 0; i < hours.length; i++) {
            ColdStore store = new ColdStore();
            if (hours[i] > 0) {
                store.tick(hours[i]);
            }
            Check.due("setOutside(5, 11) at " + hours[i], store.setOutside(5, 11), due[i]);
        }
    }

    private static void hourIsBounded() {
        Check.sentence("Promise 3", "if hour is not 0 to 23");
        Bounds.argument("hour", 0, 23, () -> Scenes.working(), (s, hour) -> s.outside(hour));
        Check.sentence("Promise 3", "Returns the temperature outside at this hour.");
        ColdStore store = Scenes.working();
        store.setOutside(-20, 60);
        Check.due("outside(0)", store.outside(0), -20);
        Check.due("outside(9), the present hour", store.outside(9), -10);
        Check.due("outside(14)", store.outside(14), 40);
        Check.due("outside(23)", store.outside(23), -20);
    }

    // ---- promise 4

    private static void priceIsBounded() {
        Check.sentence("Promise 4",
                "if from is less than 0 or greater than to, to is greater than 23, or price is not 1 to 100");
        Bounds.argument("from", 0, 12, () -> Scenes.working(), (s, from) -> s.setPrice(from, 12, 2));
        Bounds.argument("to", 12, 23, () -> Scenes.working(), (s, to) -> s.setPrice(12, to, 2));
        Bounds.argument("price", 1, 100, () -> Scenes.working(), (s, price) -> s.setPrice(0, 23, price));
        Check.takes("setPrice(0, 0, 2)", () -> Scenes.working(), s -> s.setPrice(0, 0, 2));
        Check.takes("setPrice(0, 23, 2)", () -> Scenes.working(), s -> s.setPrice(0, 23, 2));
        Check.takes("setPrice(23, 23, 2)", () -> Scenes.working(), s -> s.setPrice(23, 23, 2));
        Check.refusesArgument("setPrice(-1, -1, 2)", () -> Scenes.working(), s -> s.setPrice(-1, -1, 2));
        Check.refusesArgument("setPrice(24, 24, 2)", () -> Scenes.working(), s -> s.setPrice(24, 24, 2));
        Check.refusesArgument("setPrice(24, 23, 2)", () -> Scenes.working(), s -> s.setPrice(24, 23, 2));
        Check.refusesArgument("setPrice(0, -1, 2)", () -> Scenes.working(), s -> s.setPrice(0, -1, 2));
        Check.refusesArgument("setPrice(1, 0, 2)", () -> Scenes.working(), s -> s.setPrice(1, 0, 2));
        Check.refusesArgument("setPrice(-1, 24, 101)", () -> Scenes.working(), s -> s.setPrice(-1, 24, 101));
    }

    private static void pricesChangeFromFirstToLastHour() {
        Check.sentence("Promise 4", "Sets the price of some hours of the day.");
        int[][] spans = {{0, 0}, {0, 1}, {5, 5}, {5, 7}, {22, 23}, {23, 23}, {0, 23}};
        for (int[] span : spans) {
            ColdStore store = new ColdStore();
            store.addRoom(1, 1, 1, -300);
            store.setPrice(span[0], span[1], 100);
            for (int hour = 0; hour < 26; hour++) {
                long before = store.paid();
                store.tick(1);
                boolean isWithin = hour % 24 >= span[0] && hour % 24 <= span[1];
                Check.due("paid in hour " + hour + " after setPrice(" + span[0] + ", " + span[1] + ", 100)",
                        store.paid() - before, isWithin ? 100 : 10);
            }
        }
    }

    private static void setPriceAnswersTheLowestOfAll() {
        Check.sentence("Promise 4", "Returns the lowest price of all hours then.");
        ColdStore store = new ColdStore();
        Check.due("setPrice(0, 22, 11), 23 has 10", store.setPrice(0, 22, 11), 10);
        Check.due("setPrice(23, 23, 12), all others have 11", store.setPrice(23, 23, 12), 11);
        Check.due("setPrice(1, 23, 13), 0 has 11", store.setPrice(1, 23, 13), 11);
        Check.due("setPrice(0, 0, 14), all others have 13", store.setPrice(0, 0, 14), 13);
        Check.due("setPrice(0, 23, 100)", store.setPrice(0, 23, 100), 100);
        Check.due("setPrice(12, 12, 99)", store.setPrice(12, 12, 99), 99);
        Check.due("setPrice(23, 23, 1)", store.setPrice(23, 23, 1), 1);
    }

    // ---- promise 5

    private static void productIsBounded() {
        Check.sentence("Promise 5", "if low is not -300 to 200, high is less than low or greater than 200, "
                + "life is not 10 to 5000, or smell is not 0 to 3");
        Bounds.argument("low", -300, 200, () -> Scenes.working(), (s, low) -> s.addProduct(low, 200, 100, 0));
        Bounds.argument("high", 7, 200, () -> Scenes.working(), (s, high) -> s.addProduct(7, high, 100, 0));
        Bounds.argument("low up to high", -300, 7, () -> Scenes.working(), (s, low) -> s.addProduct(low, 7, 100, 0));
        Bounds.argument("life", 10, 5000, () -> Scenes.working(), (s, life) -> s.addProduct(0, 7, life, 0));
        Bounds.argument("smell", 0, 3, () -> Scenes.working(), (s, smell) -> s.addProduct(0, 7, 100, smell));
        Check.takes("addProduct(-300, -300, 100, 0)", () -> Scenes.working(), s -> s.addProduct(-300, -300, 100, 0));
        Check.takes("addProduct(200, 200, 100, 0)", () -> Scenes.working(), s -> s.addProduct(200, 200, 100, 0));
        Check.refusesArgument("addProduct(-301, -301, 100, 0)", () -> Scenes.working(),
                s -> s.addProduct(-301, -301, 100, 0));
        Check.refusesArgument("addProduct(201, 201, 100, 0)", () -> Scenes.working(),
                s -> s.addProduct(201, 201, 100, 0));
    }

    private static void extremeProductsAreTakenAsSaid() {
        Check.sentence("Terms", "A product has a lowest and a highest temperature that suit it, a life, 10 to 5000, "
                + "and a smell: 0 neutral, 1 smelling, 2 sensitive, 3 strong.");
        // at 150 they age 1 + 450 / 10, 1 + 50 / 10 and 1
        int[][] products = {{-300, -300, 5000, 46}, {200, 200, 5000, 6}, {-300, 200, 10, 1}};
        ColdStore store = Scenes.still(150);
        for (int i = 0; i < products.length; i++) {
            int[] product = products[i];
            Check.answers("addProduct", store, s -> s.addProduct(product[0], product[1], product[2], 0), i);
            store.arrive(i, 0, 150);
            Check.due("pallet(" + i + ", 4)", store.pallet(i, 4), product[2]);
        }
        store.tick(1);
        for (int i = 0; i < products.length; i++) {
            Check.due("pallet(" + i + ", 2) after an hour", store.pallet(i, 2), products[i][3]);
        }
    }

    private static void twelveProductsAreTheMost() {
        Check.sentence("Terms", "There are at most 12, numbered from 0 in the order of their creation.");
        ColdStore store = new ColdStore();
        for (int i = 0; i < 12; i++) {
            Check.answers("addProduct with " + i + " there", store, s -> s.addProduct(0, 0, 10, 0), i);
            Check.due("count(0)", store.count(0), i + 1);
        }
        Check.sentence("Promise 5", "if there are 12");
        Check.refusesState("addProduct with 12 there", () -> Scenes.withTwelveProducts(),
                s -> s.addProduct(0, 0, 10, 0));
        Check.due("count(0) with 12 there", Scenes.withTwelveProducts().count(0), 12);
    }

    // ---- promise 6

    private static void roomIsBounded() {
        Check.sentence("Promise 6",
                "if places is not 1 to 20, wall is not 1 to 20, power is not 0 to 200, or aim is not -300 to 150");
        Bounds.argument("places", 1, 20, () -> Scenes.working(), (s, places) -> s.addRoom(places, 5, 50, 0));
        Bounds.argument("wall", 1, 20, () -> Scenes.working(), (s, wall) -> s.addRoom(5, wall, 50, 0));
        Bounds.argument("power", 0, 200, () -> Scenes.working(), (s, power) -> s.addRoom(5, 5, power, 0));
        Bounds.argument("aim", -300, 150, () -> Scenes.working(), (s, aim) -> s.addRoom(5, 5, 50, aim));
    }

    private static void extremeRoomsAreTakenAsSaid() {
        Check.sentence("Terms", "A room has places for 1 to 20 pallets, a wall, 1 to 20, a power, 0 to 200, "
                + "an aim (a temperature, -300 to 150), a temperature (150, at first), frost, 0 to 90 (0, at first), "
                + "and a machine that is on or off (off, at first), or defrosts.");
        // places, wall, power, aim; the temperature and the energy after an hour, in which 350 are outside
        int[][] rooms = {
            {1, 1, 0, 150, 151, 0}, {20, 20, 0, 150, 170, 0}, {1, 1, 200, -300, 131, 200}, {20, 20, 200, 150, 170, 0}};
        ColdStore store = new ColdStore();
        store.setOutside(350, 0);
        for (int i = 0; i < rooms.length; i++) {
            int[] row = rooms[i];
            Check.answers("addRoom", store, s -> s.addRoom(row[0], row[1], row[2], row[3]), i);
            int[] first = {150, row[3], 0, 0, row[0], 0, 0};
            for (int what = 0; what <= 6; what++) {
                Check.due("room(" + i + ", " + what + ") at first", store.room(i, what), first[what]);
            }
        }
        store.tick(1);
        for (int i = 0; i < rooms.length; i++) {
            Check.due("room(" + i + ", 0) after an hour", store.room(i, 0), rooms[i][4]);
            Check.due("room(" + i + ", 5) after an hour", store.room(i, 5), rooms[i][5]);
        }
    }

    private static void roomsHaveAsManyPlacesAsSaid() {
        Check.sentence("Terms", "A room has places for 1 to 20 pallets");
        int[] sizes = {1, 2, 19, 20};
        ColdStore store = new ColdStore();
        store.addProduct(0, 0, 10, 0);
        for (int room = 0; room < sizes.length; room++) {
            store.addRoom(sizes[room], 1, 0, 0);
            for (int free = sizes[room]; free > 0; free--) {
                int target = room;
                Check.due("room(" + room + ", 4)", store.room(room, 4), free);
                Check.due("reason(0, " + room + ") with " + free + " free", store.reason(0, room), 0);
                int number = store.count(2);
                Check.answers("arrive with " + free + " free", store, s -> s.arrive(0, target, 0), number);
            }
            Check.due("room(" + room + ", 4) of a full room", store.room(room, 4), 0);
            Check.due("reason(0, " + room + ") of a full room", store.reason(0, room), 1);
        }
    }

    private static void sixRoomsAreTheMost() {
        Check.sentence("Terms", "There are at most 6, numbered likewise.");
        ColdStore store = new ColdStore();
        for (int i = 0; i < 6; i++) {
            Check.answers("addRoom with " + i + " there", store, s -> s.addRoom(1, 1, 0, 0), i);
            Check.due("count(1)", store.count(1), i + 1);
        }
        Check.sentence("Promise 6", "if there are 6");
        Check.refusesState("addRoom with 6 there", () -> Scenes.withSixRooms(), s -> s.addRoom(1, 1, 0, 0));
        Check.due("count(1) with 6 there", Scenes.withSixRooms().count(1), 6);
    }

    // ---- promise 7

    private static void setRoomIsBounded() {
        Check.sentence("Promise 7", "if there is no such room");
        Bounds.index("room of three", 0, 2, () -> Scenes.working(), (s, room) -> s.setRoom(room, 7, true));
        Bounds.index("room of six", 0, 5, () -> Scenes.withSixRooms(), (s, room) -> s.setRoom(room, 7, true));
        Check.sentence("Promise 7", "if aim is not -300 to 150");
        Bounds.argument("aim, thrifty", -300, 150, () -> Scenes.working(), (s, aim) -> s.setRoom(0, aim, true));
        Bounds.argument("aim", -300, 150, () -> Scenes.working(), (s, aim) -> s.setRoom(1, aim, false));
    }

    private static void setRoomAnswersTheAimBefore() {
        Check.sentence("Promise 7", "Returns the aim before.");
        ColdStore store = Scenes.working();
        Check.answers("setRoom(0, -300, true)", store, s -> s.setRoom(0, -300, true), 0);
        Check.answers("setRoom(0, 150, false)", store, s -> s.setRoom(0, 150, false), -300);
        Check.answers("setRoom(0, 150, false) again", store, s -> s.setRoom(0, 150, false), 150);
        Check.due("room(0, 1)", store.room(0, 1), 150);
        Check.due("room(1, 1), untouched", store.room(1, 1), -50);
    }

    // ---- promise 8

    private static void defrostKnowsItsRooms() {
        Check.sentence("Promise 8", "if there is no such room");
        Bounds.index("room of three", 0, 2, () -> Scenes.working(), (s, room) -> s.defrost(room));
        Bounds.index("room of six", 0, 5, () -> Scenes.withSixRooms(), (s, room) -> s.defrost(room));
    }

    private static ColdStore defrostedBefore(int hours) {
        ColdStore store = Scenes.working();
        store.defrost(0);
        if (hours > 0) {
            store.tick(hours);
        }
        return store;
    }

    private static void defrostIsRefusedForThreeHours() {
        Check.sentence("Promise 8", "if it defrosts already");
        Check.refusesState("defrost(0) at once", () -> defrostedBefore(0), s -> s.defrost(0));
        Check.refusesState("defrost(0) an hour later", () -> defrostedBefore(1), s -> s.defrost(0));
        Check.refusesState("defrost(0) two hours later", () -> defrostedBefore(2), s -> s.defrost(0));
        Check.takes("defrost(0) three hours later", () -> defrostedBefore(3), s -> s.defrost(0));
        Check.takes("defrost(1) beside it", () -> defrostedBefore(0), s -> s.defrost(1));
        Check.sentence("Promise 8", "Lets the machine of a room defrost; its hours left are 3 then.");
        ColdStore store = defrostedBefore(3);
        store.defrost(0);
        int[] due = {2, 2, 2, 0};
        for (int hour = 0; hour < due.length; hour++) {
            Check.due("room(0, 3) " + hour + " hours after the second time", store.room(0, 3), due[hour]);
            store.tick(1);
        }
    }

    private static void defrostAnswersTheFrost() {
        Check.sentence("Promise 8", "Returns its frost.");
        int[][] due = {{0, 0}, {1, 1}, {89, 89}, {90, 90}, {91, 90}, {200, 90}};
        for (int[] row : due) {
            ColdStore store = new ColdStore();
            store.addRoom(1, 20, 1, -300);
            if (row[0] > 0) {
                store.tick(row[0]);
            }
            Check.due("defrost(0) after " + row[0] + " hours", store.defrost(0), row[1]);
            Check.due("room(0, 2) after it", store.room(0, 2), row[1]);
            store.tick(3);
            Check.due("defrost(0) after it ended", store.defrost(0), 0);
        }
    }

    // ---- promise 9

    private static void factsAreBounded() {
        Check.sentence("Promise 9", "if there is no such room, or what is not 0 to 6");
        Bounds.index("room of three", 0, 2, () -> Scenes.working(), (s, room) -> s.room(room, 0));
        Bounds.index("room of six", 0, 5, () -> Scenes.withSixRooms(), (s, room) -> s.room(room, 6));
        Bounds.index("what", 0, 6, () -> Scenes.working(), (s, what) -> s.room(2, what));
        Check.refusesIndex("room(3, 7)", () -> Scenes.working(), s -> s.room(3, 7));
    }

    private static void factsAtTheirEnds() {
        Check.sentence("Promise 9", "0 its temperature, 1 its aim, 2 its frost, 3 its machine: 0 off, 1 on, "
                + "2 defrosting, 4 its places that are free, 5 the energy that its machine has used so far, "
                + "6 in how many hours so far its temperature was more than 20 above the aim, at their end");
        ColdStore store = new ColdStore();
        store.addProduct(0, 0, 10, 0);
        store.addRoom(1, 20, 200, -300);
        Check.due("room(0, 3) at first", store.room(0, 3), 0);
        store.tick(1);
        Check.due("room(0, 3) above the aim", store.room(0, 3), 1);
        Check.due("room(0, 5) after an hour", store.room(0, 5), 200);
        Check.due("room(0, 4) of a free room", store.room(0, 4), 1);
        store.arrive(0, 0, 0);
        Check.due("room(0, 4) of a full room", store.room(0, 4), 0);
        store.defrost(0);
        Check.due("room(0, 3) at once", store.room(0, 3), 2);
        store.tick(3);
        Check.due("room(0, 3) three hours later", store.room(0, 3), 0);
        Check.due("room(0, 5) three hours later", store.room(0, 5), 200);
        Check.due("room(0, 6) of four warm hours", store.room(0, 6), 4);
    }
}
