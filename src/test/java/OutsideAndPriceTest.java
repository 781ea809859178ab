/** Promises 1 to 4: a new store, the air outside, the prices. */
public final class OutsideAndPriceTest {
    public static void main(String[] args) {
        newStoreIsEmpty();
        outsideFollowsBaseAndSwing();
        setOutsideAnswersThisHour();
        wrongOutsideIsRefused();
        setPriceAnswersTheLowest();
        pricesAreInForceFromFirstToLastHour();
        wrongPricesAreRefused();
        Check.end("OutsideAndPriceTest");
    }

    private static ColdStore running() {
        ColdStore store = new ColdStore();
        store.addRoom(2, 5, 100, 0);
        store.addProduct(0, 40, 100, 0);
        store.arrive(0, 0, 20);
        store.setOutside(100, 60);
        store.setPrice(3, 7, 20);
        return store;
    }

    private static void newStoreIsEmpty() {
        ColdStore store = new ColdStore();
        for (int what = 0; what < 5; what++) {
            Check.due("count(" + what + ") at first", store.count(what), 0);
        }
        Check.due("now() at first", store.now(), 0);
        Check.due("paid() at first", store.paid(), 0);
        for (int hour = 0; hour < 24; hour++) {
            Check.due("outside(" + hour + ") at first", store.outside(hour), 150);
        }
        Check.due("clear() at first", store.clear(), 0);
        Check.due("tick(200) at first", store.tick(200), 0);
        Check.due("paid() without rooms", store.paid(), 0);
        ColdStore other = running();
        Check.due("count(1) of a store beside another", new ColdStore().count(1), 0);
        Check.due("count(1) of the other", other.count(1), 1);
    }

    private static void outsideFollowsBaseAndSwing() {
        ColdStore store = new ColdStore();
        store.setOutside(100, 60);
        int[] due = {100, 100, 100, 100, 100, 100, 100, 100, 100, 110, 120, 130,
            140, 150, 160, 150, 140, 130, 120, 110, 100, 100, 100, 100};
        for (int hour = 0; hour < 24; hour++) {
            Check.due("outside(" + hour + ") of 100, 60", store.outside(hour), due[hour]);
        }
        store.setOutside(-20, 7);
        // 7 * 1 / 6 = 1, 7 * 2 / 6 = 2, 7 * 3 / 6 = 3, 28 / 6 = 4, 35 / 6 = 5, 42 / 6 = 7
        int[] more = {0, 1, 2, 3, 4, 5, 7, 5, 4, 3, 2, 1, 0};
        for (int i = 0; i < more.length; i++) {
            Check.due("outside(" + (8 + i) + ") of -20, 7", store.outside(8 + i), -20 + more[i]);
        }
        store.setOutside(400, 200);
        Check.due("outside(14) of 400, 200", store.outside(14), 600);
        store.setOutside(-300, 0);
        Check.due("outside(14) of -300, 0", store.outside(14), -300);
    }

    private static void setOutsideAnswersThisHour() {
        ColdStore store = new ColdStore();
        Check.due("setOutside(10, 30) at 0", store.setOutside(10, 30), 10);
        store.tick(9);
        Check.due("setOutside(10, 30) at 9", store.setOutside(10, 30), 15);
        store.tick(5);
        Check.due("setOutside(-300, 200) at 14", store.setOutside(-300, 200), -100);
        store.tick(24);
        Check.due("setOutside(400, 200) at 38", store.setOutside(400, 200), 600);
        store.tick(8);
        Check.due("setOutside(0, 200) at 46", store.setOutside(0, 200), 0);
    }

    private static void wrongOutsideIsRefused() {
        Check.refusesArgument("setOutside(-301, 0)", () -> running(), s -> s.setOutside(-301, 0));
        Check.refusesArgument("setOutside(401, 0)", () -> running(), s -> s.setOutside(401, 0));
        Check.refusesArgument("setOutside(0, -1)", () -> running(), s -> s.setOutside(0, -1));
        Check.refusesArgument("setOutside(0, 201)", () -> running(), s -> s.setOutside(0, 201));
        Check.refusesArgument("outside(-1)", () -> running(), s -> s.outside(-1));
        Check.refusesArgument("outside(24)", () -> running(), s -> s.outside(24));
        Check.refusesArgument("outside(least)", () -> running(), s -> s.outside(Integer.MIN_VALUE));
    }

    private static void setPriceAnswersTheLowest() {
        ColdStore store = new ColdStore();
        Check.due("setPrice(0, 5, 20)", store.setPrice(0, 5, 20), 10);
        Check.due("setPrice(6, 22, 30)", store.setPrice(6, 22, 30), 10);
        Check.due("setPrice(23, 23, 100)", store.setPrice(23, 23, 100), 20);
        Check.due("setPrice(0, 0, 1)", store.setPrice(0, 0, 1), 1);
        Check.due("setPrice(0, 23, 100)", store.setPrice(0, 23, 100), 100);
        Check.due("setPrice(12, 12, 99)", store.setPrice(12, 12, 99), 99);
    }

    private static void pricesAreInForceFromFirstToLastHour() {
        ColdStore store = new ColdStore();
        store.addRoom(1, 1, 100, -300);
        store.setPrice(2, 3, 7);
        store.setPrice(23, 23, 50);
        int[] due = new int[24];
        java.util.Arrays.fill(due, 10);
        due[2] = 7;
        due[3] = 7;
        due[23] = 50;
        for (int hour = 0; hour < 48; hour++) {
            long before = store.paid();
            store.tick(1);
            Check.due("paid in hour " + hour, store.paid() - before, 100L * due[hour % 24]);
        }
    }

    private static void wrongPricesAreRefused() {
        Check.refusesArgument("setPrice(-1, 5, 10)", () -> running(), s -> s.setPrice(-1, 5, 11));
        Check.refusesArgument("setPrice(5, 4, 10)", () -> running(), s -> s.setPrice(5, 4, 11));
        Check.refusesArgument("setPrice(0, 24, 10)", () -> running(), s -> s.setPrice(0, 24, 11));
        Check.refusesArgument("setPrice(24, 24, 10)", () -> running(), s -> s.setPrice(24, 24, 11));
        Check.refusesArgument("setPrice(0, 23, 0)", () -> running(), s -> s.setPrice(0, 23, 0));
        Check.refusesArgument("setPrice(0, 23, 101)", () -> running(), s -> s.setPrice(0, 23, 101));
        Check.refusesArgument("setPrice(-5, -7, 10)", () -> running(), s -> s.setPrice(-5, -7, 11));
    }
}
