/** Promises 5 to 9: products, rooms, their aims and their defrosting. */
public final class ProductAndRoomTest {
    public static void main(String[] args) {
        productsAreNumbered();
        wrongProductsAreRefused();
        roomsAreNumbered();
        wrongRoomsAreRefused();
        setRoomAnswersTheAimBefore();
        wrongSettingsAreRefused();
        defrostTakesThreeHours();
        wrongDefrostingIsRefused();
        roomTellsItsFacts();
        wrongFactsAreRefused();
        Check.end("ProductAndRoomTest");
    }

    private static ColdStore running() {
        ColdStore store = new ColdStore();
        store.addProduct(0, 40, 100, 0);
        store.addRoom(2, 5, 100, 0);
        store.addRoom(3, 7, 50, 10);
        store.arrive(0, 0, 20);
        store.tick(5);
        store.defrost(1);
        return store;
    }

    private static ColdStore withProducts(int many) {
        ColdStore store = running();
        for (int i = 1; i < many; i++) {
            store.addProduct(i, i, 10 + i, i % 4);
        }
        return store;
    }

    private static ColdStore withRooms(int many) {
        ColdStore store = running();
        for (int i = 2; i < many; i++) {
            store.addRoom(1, 1, i, i);
        }
        return store;
    }

    private static void productsAreNumbered() {
        ColdStore store = new ColdStore();
        Check.due("addProduct of the least", store.addProduct(-300, -300, 10, 0), 0);
        Check.due("addProduct of the most", store.addProduct(200, 200, 5000, 3), 1);
        Check.due("addProduct of the widest", store.addProduct(-300, 200, 100, 1), 2);
        for (int i = 3; i < 12; i++) {
            Check.due("addProduct the " + i + ". time", store.addProduct(0, 0, 10, 2), i);
            Check.due("count(0)", store.count(0), i + 1);
        }
    }

    private static void wrongProductsAreRefused() {
        Check.refusesArgument("addProduct low -301", () -> running(), s -> s.addProduct(-301, 0, 10, 0));
        Check.refusesArgument("addProduct low 201", () -> running(), s -> s.addProduct(201, 201, 10, 0));
        Check.refusesArgument("addProduct high < low", () -> running(), s -> s.addProduct(5, 4, 10, 0));
        Check.refusesArgument("addProduct high 201", () -> running(), s -> s.addProduct(5, 201, 10, 0));
        Check.refusesArgument("addProduct life 9", () -> running(), s -> s.addProduct(5, 5, 9, 0));
        Check.refusesArgument("addProduct life 5001", () -> running(), s -> s.addProduct(5, 5, 5001, 0));
        Check.refusesArgument("addProduct smell -1", () -> running(), s -> s.addProduct(5, 5, 10, -1));
        Check.refusesArgument("addProduct smell 4", () -> running(), s -> s.addProduct(5, 5, 10, 4));
        Check.refusesState("addProduct the 13.", () -> withProducts(12), s -> s.addProduct(0, 0, 10, 0));
        Check.refusesArgument("addProduct the 13., wrong", () -> withProducts(12), s -> s.addProduct(0, 0, 10, 4));
    }

    private static void roomsAreNumbered() {
        ColdStore store = new ColdStore();
        Check.due("addRoom of the least", store.addRoom(1, 1, 0, -300), 0);
        Check.due("addRoom of the most", store.addRoom(20, 20, 200, 150), 1);
        for (int i = 2; i < 6; i++) {
            Check.due("addRoom the " + i + ". time", store.addRoom(i, 1, 10, i), i);
            Check.due("count(1)", store.count(1), i + 1);
        }
        Check.due("room(0, 4)", store.room(0, 4), 1);
        Check.due("room(1, 4)", store.room(1, 4), 20);
    }

    private static void wrongRoomsAreRefused() {
        Check.refusesArgument("addRoom places 0", () -> running(), s -> s.addRoom(0, 1, 0, 0));
        Check.refusesArgument("addRoom places 21", () -> running(), s -> s.addRoom(21, 1, 0, 0));
        Check.refusesArgument("addRoom places least", () -> running(), s -> s.addRoom(Integer.MIN_VALUE, 1, 0, 0));
        Check.refusesArgument("addRoom wall 0", () -> running(), s -> s.addRoom(1, 0, 0, 0));
        Check.refusesArgument("addRoom wall 21", () -> running(), s -> s.addRoom(1, 21, 0, 0));
        Check.refusesArgument("addRoom power -1", () -> running(), s -> s.addRoom(1, 1, -1, 0));
        Check.refusesArgument("addRoom power 201", () -> running(), s -> s.addRoom(1, 1, 201, 0));
        Check.refusesArgument("addRoom aim -301", () -> running(), s -> s.addRoom(1, 1, 0, -301));
        Check.refusesArgument("addRoom aim 151", () -> running(), s -> s.addRoom(1, 1, 0, 151));
        Check.refusesState("addRoom the 7.", () -> withRooms(6), s -> s.addRoom(1, 1, 0, 0));
        Check.refusesArgument("addRoom the 7., wrong", () -> withRooms(6), s -> s.addRoom(1, 1, 0, 151));
    }

    private static void setRoomAnswersTheAimBefore() {
        ColdStore store = running();
        Check.due("setRoom(0, -300, false)", store.setRoom(0, -300, false), 0);
        Check.due("room(0, 1)", store.room(0, 1), -300);
        Check.due("setRoom(0, 150, true)", store.setRoom(0, 150, true), -300);
        Check.due("room(0, 1)", store.room(0, 1), 150);
        Check.due("room(1, 1) untouched", store.room(1, 1), 10);
        long thrifty = store.digest();
        store.setRoom(0, 150, false);
        Check.due("digest() tells thrifty rooms from others", thrifty == store.digest() ? 1 : 0, 0);
        store.setRoom(0, 150, true);
        Check.due("digest() of the same again", store.digest(), thrifty);
    }

    private static void wrongSettingsAreRefused() {
        Check.refusesIndex("setRoom(-1, 0, true)", () -> running(), s -> s.setRoom(-1, 0, true));
        Check.refusesIndex("setRoom(2, 0, true)", () -> running(), s -> s.setRoom(2, 0, true));
        Check.refusesIndex("setRoom(6, 0, true)", () -> withRooms(6), s -> s.setRoom(6, 0, true));
        Check.refusesIndex("setRoom(2, 151, true)", () -> running(), s -> s.setRoom(2, 151, true));
        Check.refusesArgument("setRoom(0, 151, true)", () -> running(), s -> s.setRoom(0, 151, true));
        Check.refusesArgument("setRoom(0, -301, true)", () -> running(), s -> s.setRoom(0, -301, true));
    }

    private static void defrostTakesThreeHours() {
        ColdStore store = new ColdStore();
        store.addRoom(1, 1, 0, 0);
        store.tick(7);
        Check.due("frost after 7 hours", store.room(0, 2), 7);
        Check.due("defrost(0)", store.defrost(0), 7);
        int[][] due = {{158, 7, 2}, {166, 7, 2}, {166, 0, 0}, {166, 1, 1}};
        for (int hour = 0; hour < due.length; hour++) {
            store.tick(1);
            Check.due("room(0, 0) " + hour, store.room(0, 0), due[hour][0]);
            Check.due("room(0, 2) " + hour, store.room(0, 2), due[hour][1]);
            Check.due("room(0, 3) " + hour, store.room(0, 3), due[hour][2]);
        }
        Check.due("defrost(0) again", store.defrost(0), 1);
        Check.due("room(0, 3) at once", store.room(0, 3), 2);
    }

    private static void wrongDefrostingIsRefused() {
        Check.refusesIndex("defrost(-1)", () -> running(), s -> s.defrost(-1));
        Check.refusesIndex("defrost(2)", () -> running(), s -> s.defrost(2));
        Check.refusesState("defrost(1)", () -> running(), s -> s.defrost(1));
        Check.refusesState("defrost(1) an hour later", () -> {
            ColdStore store = running();
            store.tick(2);
            return store;
        }, s -> s.defrost(1));
    }

    private static void roomTellsItsFacts() {
        ColdStore store = new ColdStore();
        store.addProduct(0, 40, 100, 0);
        store.addRoom(3, 10, 100, 0);
        int[] first = {150, 0, 0, 0, 3, 0, 0};
        for (int what = 0; what < 7; what++) {
            Check.due("room(0, " + what + ") at first", store.room(0, what), first[what]);
        }
        store.tick(4);
        int[] later = {114, 0, 4, 1, 3, 400, 4};
        for (int what = 0; what < 7; what++) {
            Check.due("room(0, " + what + ") after 4 hours", store.room(0, what), later[what]);
        }
        store.arrive(0, 0, 10);
        Check.due("room(0, 4) with a pallet", store.room(0, 4), 2);
    }

    private static void wrongFactsAreRefused() {
        Check.refusesIndex("room(-1, 0)", () -> running(), s -> s.room(-1, 0));
        Check.refusesIndex("room(2, 0)", () -> running(), s -> s.room(2, 0));
        Check.refusesIndex("room(0, -1)", () -> running(), s -> s.room(0, -1));
        Check.refusesIndex("room(0, 7)", () -> running(), s -> s.room(0, 7));
        Check.refusesIndex("room(most, most)", () -> running(), s -> s.room(Integer.MAX_VALUE, Integer.MAX_VALUE));
    }
}
