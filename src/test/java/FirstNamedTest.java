/** Calls with several faults at once: the exception that the document names first is thrown. */
public final class FirstNamedTest {
    public static void main(String[] args) {
        argumentsGoAheadOfTooManyProducts();
        argumentsGoAheadOfTooManyRooms();
        roomGoesAheadOfItsAim();
        productAndRoomGoAheadOfTheTemperature();
        productAndRoomGoAheadOfThePlace();
        temperatureGoesAheadOfThePlace();
        palletAndRoomGoAheadOfThePlace();
        productGoesAheadOfTheShipment();
        roomGoesAheadOfTheHours();
        Check.end("FirstNamedTest");
    }

    private static void rule() {
        Check.sentence("Terms", "If several exceptions apply, the one that is named first is thrown.");
    }

    private static void argumentsGoAheadOfTooManyProducts() {
        rule();
        int[][] wrong = {{-301, 0, 10, 0}, {201, 201, 10, 0}, {1, 0, 10, 0}, {0, 201, 10, 0}, {0, 0, 9, 0},
            {0, 0, 5001, 0}, {0, 0, 10, -1}, {0, 0, 10, 4}};
        for (int[] a : wrong) {
            Check.refusesArgument("addProduct" + java.util.Arrays.toString(a) + " with 12 there",
                    () -> Scenes.withTwelveProducts(), s -> s.addProduct(a[0], a[1], a[2], a[3]));
        }
    }

    private static void argumentsGoAheadOfTooManyRooms() {
        rule();
        int[][] wrong = {{0, 1, 0, 0}, {21, 1, 0, 0}, {1, 0, 0, 0}, {1, 21, 0, 0}, {1, 1, -1, 0}, {1, 1, 201, 0},
            {1, 1, 0, -301}, {1, 1, 0, 151}};
        for (int[] a : wrong) {
            Check.refusesArgument("addRoom" + java.util.Arrays.toString(a) + " with 6 there",
                    () -> Scenes.withSixRooms(), s -> s.addRoom(a[0], a[1], a[2], a[3]));
        }
    }

    private static void roomGoesAheadOfItsAim() {
        rule();
        int[] rooms = {-1, 3};
        for (int room : rooms) {
            Check.refusesIndex("setRoom(" + room + ", -301, true)", () -> Scenes.working(),
                    s -> s.setRoom(room, -301, true));
            Check.refusesIndex("setRoom(" + room + ", 151, false)", () -> Scenes.working(),
                    s -> s.setRoom(room, 151, false));
        }
    }

    private static void productAndRoomGoAheadOfTheTemperature() {
        rule();
        Check.refusesIndex("arrive(-1, 0, -301)", () -> Scenes.working(), s -> s.arrive(-1, 0, -301));
        Check.refusesIndex("arrive(5, 0, 401)", () -> Scenes.working(), s -> s.arrive(5, 0, 401));
        Check.refusesIndex("arrive(0, -1, 401)", () -> Scenes.working(), s -> s.arrive(0, -1, 401));
        Check.refusesIndex("arrive(0, 3, -301)", () -> Scenes.working(), s -> s.arrive(0, 3, -301));
        Check.refusesIndex("arrive(5, 3, 401)", () -> Scenes.working(), s -> s.arrive(5, 3, 401));
    }

    private static void productAndRoomGoAheadOfThePlace() {
        rule();
        Check.refusesIndex("arrive(5, 2, 0) in a full room", () -> Scenes.working(), s -> s.arrive(5, 2, 0));
        Check.refusesIndex("arrive(5, 2, 401) in a full room", () -> Scenes.working(), s -> s.arrive(5, 2, 401));
        Check.refusesIndex("arrive(2, 0, 0) after sixty", () -> Scenes.afterSixtyPallets(), s -> s.arrive(2, 0, 0));
        Check.refusesIndex("arrive(0, 3, 0) after sixty", () -> Scenes.afterSixtyPallets(), s -> s.arrive(0, 3, 0));
        Check.refusesIndex("arrive(0, 3, 401) after sixty", () -> Scenes.afterSixtyPallets(),
                s -> s.arrive(0, 3, 401));
    }

    private static void temperatureGoesAheadOfThePlace() {
        rule();
        int[] temperatures = {-301, 401};
        for (int warm : temperatures) {
            Check.refusesArgument("arrive(3, 2, " + warm + ") in a full room", () -> Scenes.working(),
                    s -> s.arrive(3, 2, warm));
            Check.refusesArgument("arrive(1, 1, " + warm + ") beside a sensitive one", () -> Scenes.working(),
                    s -> s.arrive(1, 1, warm));
            Check.refusesArgument("arrive(0, 0, " + warm + ") after sixty", () -> Scenes.afterSixtyPallets(),
                    s -> s.arrive(0, 0, warm));
        }
    }

    private static void palletAndRoomGoAheadOfThePlace() {
        rule();
        Check.refusesIndex("move(4, -1) of one that is gone", () -> Scenes.working(), s -> s.move(4, -1));
        Check.refusesIndex("move(4, 3) of one that is gone", () -> Scenes.working(), s -> s.move(4, 3));
        Check.refusesIndex("move(-1, 2) to a full room", () -> Scenes.working(), s -> s.move(-1, 2));
        Check.refusesIndex("move(5, 2) to a full room", () -> Scenes.working(), s -> s.move(5, 2));
    }

    private static void productGoesAheadOfTheShipment() {
        rule();
        int[] products = {-1, 5};
        for (int product : products) {
            Check.refusesIndex("ship(" + product + ", 0, 0)", () -> Scenes.working(), s -> s.ship(product, 0, 0));
            Check.refusesIndex("ship(" + product + ", 61, 0)", () -> Scenes.working(), s -> s.ship(product, 61, 0));
            Check.refusesIndex("ship(" + product + ", 1, -1)", () -> Scenes.working(), s -> s.ship(product, 1, -1));
            Check.refusesIndex("ship(" + product + ", 0, -1)", () -> Scenes.working(), s -> s.ship(product, 0, -1));
        }
    }

    private static void roomGoesAheadOfTheHours() {
        rule();
        int[] rooms = {-1, 3};
        for (int room : rooms) {
            Check.refusesIndex("foretell(" + room + ", -1)", () -> Scenes.working(), s -> s.foretell(room, -1));
            Check.refusesIndex("foretell(" + room + ", 101)", () -> Scenes.working(), s -> s.foretell(room, 101));
        }
    }
}
