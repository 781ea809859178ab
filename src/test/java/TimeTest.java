/** Promises 19 to 25: how hours pass, what is foretold, what is paid. */
public final class TimeTest {
    public static void main(String[] args) {
        machineTurnsOnAboveTheAim();
        machineTurnsOffBelowTheAim();
        thriftyMachineStoresColdWhenItIsCheap();
        thriftyMachineIsOrdinaryWhenItIsNotCheap();
        defrostingGoesAheadOfThrift();
        frostWeakensTheMachine();
        wallsAreCutTowardsZero();
        eachPalletWarmsByItself();
        palletsAgeByTheirNewTemperature();
        warmHoursAreCountedAtTheirEnd();
        energyIsPaidAtThePriceOfTheHour();
        outsideIsTakenAtTheBeginning();
        tickAnswersTheNewlySpoiled();
        wrongTicksAreRefused();
        foretellChangesNothing();
        foretellGoesBeyondTheEnd();
        wrongForetellingIsRefused();
        lastsTellsTheHourOfSpoiling();
        wrongLastingIsRefused();
        nowIsTheTime();
        freshnessIsTheMean();
        digestIsTheSumOfAll();
        Check.end("TimeTest");
    }

    private static ColdStore running() {
        ColdStore store = new ColdStore();
        store.addProduct(0, 40, 300, 0);
        store.addProduct(-50, 0, 400, 2);
        store.addRoom(4, 5, 100, 0);
        store.addRoom(3, 7, 150, -50);
        store.setOutside(120, 90);
        store.setPrice(0, 6, 3);
        store.setRoom(1, -50, true);
        store.arrive(0, 0, 200);
        store.arrive(0, 0, -100);
        store.arrive(1, 1, 0);
        store.tick(9);
        store.defrost(0);
        return store;
    }

    private static ColdStore at(int time) {
        ColdStore store = running();
        return later(store, time - store.now());
    }

    private static ColdStore later(ColdStore store, int hours) {
        for (int gone = 0; gone < hours; gone += 200) {
            store.tick(Math.min(200, hours - gone));
        }
        return store;
    }

    /** A room without power that stays at 150 until the air outside changes; wall 1. */
    private static ColdStore still(int aim) {
        ColdStore store = new ColdStore();
        store.addRoom(3, 1, 0, aim);
        return store;
    }

    /** With wall 1, air that is 200 colder takes 1 from a room in an hour. */
    private static void coolByOne(ColdStore store) {
        store.setOutside(store.room(0, 0) - 200, 0);
        store.tick(1);
        store.setOutside(store.room(0, 0), 0);
    }

    private static void machineTurnsOnAboveTheAim() {
        ColdStore store = still(145);
        store.tick(1);
        Check.due("machine at the aim and 5", store.room(0, 3), 0);
        store.setRoom(0, 144, false);
        Check.due("machine at once", store.room(0, 3), 0);
        store.tick(1);
        Check.due("machine at the aim and 6", store.room(0, 3), 1);
        store.setRoom(0, 150, false);
        store.tick(1);
        Check.due("machine at the aim", store.room(0, 3), 1);
    }

    private static void machineTurnsOffBelowTheAim() {
        ColdStore store = still(144);
        store.tick(1);
        store.setRoom(0, 150, false);
        for (int i = 0; i < 5; i++) {
            coolByOne(store);
        }
        Check.due("temperature", store.room(0, 0), 145);
        store.tick(1);
        Check.due("machine at the aim less 5", store.room(0, 3), 1);
        coolByOne(store);
        Check.due("machine in the hour that goes below", store.room(0, 3), 1);
        store.tick(1);
        Check.due("machine at the aim less 6", store.room(0, 3), 0);
        store.setRoom(0, 144, false);
        store.tick(1);
        Check.due("machine at the aim, off", store.room(0, 3), 0);
    }

    private static void thriftyMachineStoresColdWhenItIsCheap() {
        ColdStore store = new ColdStore();
        store.addRoom(1, 20, 0, 150);
        store.setRoom(0, 150, true);
        store.tick(1);
        Check.due("machine at the aim", store.room(0, 3), 1);
        store.setOutside(-100, 0);
        store.tick(1);
        Check.due("temperature", store.room(0, 0), 125);
        store.setOutside(115, 0);
        store.tick(1);
        Check.due("machine at the aim less 25", store.room(0, 3), 1);
        Check.due("temperature", store.room(0, 0), 124);
        store.setOutside(134, 0);
        store.tick(1);
        Check.due("machine at the aim less 26", store.room(0, 3), 0);
        store.tick(1);
        Check.due("machine at the aim less 25 again", store.room(0, 3), 1);
    }

    private static void thriftyMachineIsOrdinaryWhenItIsNotCheap() {
        ColdStore store = still(150);
        store.setRoom(0, 150, true);
        store.setPrice(1, 1, 9);
        store.tick(1);
        Check.due("machine at a price that is not the lowest", store.room(0, 3), 0);
        store.tick(1);
        Check.due("machine at the lowest price", store.room(0, 3), 1);
        store.tick(1);
        Check.due("machine between", store.room(0, 3), 1);
        store.setPrice(0, 23, 5);
        store.setRoom(0, 150, false);
        store.tick(1);
        Check.due("machine of a room that is thrifty no more", store.room(0, 3), 1);
        ColdStore other = still(150);
        other.setPrice(0, 0, 9);
        other.tick(1);
        Check.due("machine of an ordinary room at the lowest price", other.room(0, 3), 0);
    }

    private static void defrostingGoesAheadOfThrift() {
        ColdStore store = still(0);
        store.setRoom(0, 0, true);
        store.tick(2);
        store.defrost(0);
        int[] due = {2, 2, 0, 1};
        for (int hour = 0; hour < due.length; hour++) {
            store.tick(1);
            Check.due("machine in hour " + hour, store.room(0, 3), due[hour]);
        }
    }

    private static void frostWeakensTheMachine() {
        ColdStore store = new ColdStore();
        store.addRoom(1, 10, 100, 0);
        int[] due = {140, 131, 122, 114, 106};
        for (int hour = 0; hour < due.length; hour++) {
            store.tick(1);
            Check.due("temperature after hour " + hour, store.room(0, 0), due[hour]);
            Check.due("frost after hour " + hour, store.room(0, 2), hour + 1);
            Check.due("energy after hour " + hour, store.room(0, 5), 100 * (hour + 1));
        }
        ColdStore odd = new ColdStore();
        odd.addRoom(1, 20, 111, -300);
        // 111 * 100 / 1000 = 11 at first, then 10, and 111 * 90 / 1000 = 9 in the last of these hours
        int[] oddDue = {139, 130, 122, 114, 107, 101, 95, 90, 86, 82, 79};
        for (int hour = 0; hour < oddDue.length; hour++) {
            odd.tick(1);
            Check.due("temperature by power 111 after hour " + hour, odd.room(0, 0), oddDue[hour]);
        }
        ColdStore weak = new ColdStore();
        weak.addRoom(1, 20, 100, -300);
        weak.tick(89);
        Check.due("frost after 89 hours", weak.room(0, 2), 89);
        weak.tick(1);
        Check.due("frost after 90 hours", weak.room(0, 2), 90);
        weak.tick(9);
        Check.due("frost after 99 hours", weak.room(0, 2), 90);
    }

    private static void wallsAreCutTowardsZero() {
        ColdStore store = still(150);
        store.setOutside(-150, 0);
        store.tick(1);
        Check.due("temperature by -300 / 200", store.room(0, 0), 149);
        store.setOutside(348, 0);
        store.tick(1);
        Check.due("temperature by 199 / 200", store.room(0, 0), 149);
        store.setOutside(-50, 0);
        store.tick(1);
        Check.due("temperature by -199 / 200", store.room(0, 0), 149);
        ColdStore thick = new ColdStore();
        thick.addRoom(1, 7, 0, 150);
        thick.setOutside(193, 0);
        thick.tick(1);
        Check.due("temperature by 43 * 7 / 200", thick.room(0, 0), 151);
    }

    private static void eachPalletWarmsByItself() {
        ColdStore store = still(150);
        store.addProduct(0, 200, 5000, 0);
        store.arrive(0, 0, 111);
        store.arrive(0, 0, 111);
        store.arrive(0, 0, 189);
        store.tick(1);
        Check.due("temperature by pallets 39 away", store.room(0, 0), 150);
        Check.due("pallet(0, 1)", store.pallet(0, 1), 115);
        Check.due("pallet(2, 1)", store.pallet(2, 1), 185);
        ColdStore warm = still(150);
        warm.addProduct(0, 200, 5000, 0);
        warm.arrive(0, 0, 239);
        warm.arrive(0, 0, 190);
        warm.arrive(0, 0, 70);
        warm.tick(1);
        Check.due("temperature by 2 + 1 - 2", warm.room(0, 0), 151);
        Check.due("pallet of 239 by -88 / 8", warm.pallet(0, 1), 228);
        Check.due("pallet of 190 by -39 / 8", warm.pallet(1, 1), 186);
        Check.due("pallet of 70 by 81 / 8", warm.pallet(2, 1), 80);
    }

    private static void palletsAgeByTheirNewTemperature() {
        ColdStore store = still(150);
        store.addProduct(160, 200, 5000, 0);
        store.addProduct(-300, 140, 5000, 0);
        store.addProduct(-300, 141, 5000, 0);
        store.arrive(0, 0, 150);
        store.arrive(1, 0, 150);
        store.arrive(2, 0, 150);
        store.tick(1);
        Check.due("age 10 below what suits", store.pallet(0, 2), 2);
        Check.due("age 10 above what suits", store.pallet(1, 2), 2);
        Check.due("age 9 above what suits", store.pallet(2, 2), 1);
        ColdStore cold = still(150);
        cold.addProduct(150, 150, 5000, 0);
        cold.arrive(0, 0, 70);
        cold.tick(1);
        Check.due("age at 79, no more at 70", cold.pallet(0, 2), 8);
    }

    private static void warmHoursAreCountedAtTheirEnd() {
        ColdStore store = still(129);
        store.tick(1);
        Check.due("warm hours at the aim and 21", store.room(0, 6), 1);
        store.setRoom(0, 130, false);
        store.tick(1);
        Check.due("warm hours at the aim and 20", store.room(0, 6), 1);
        store.setRoom(0, 129, false);
        coolByOne(store);
        Check.due("warm hours at the aim and 20 at the end", store.room(0, 6), 1);
        store.setRoom(0, 128, false);
        store.setOutside(-251, 0);
        store.tick(1);
        Check.due("warm hours at the aim and 19 at the end", store.room(0, 6), 1);
    }

    private static void energyIsPaidAtThePriceOfTheHour() {
        ColdStore store = new ColdStore();
        store.addRoom(1, 20, 100, -300);
        store.addRoom(1, 20, 50, -300);
        store.addRoom(1, 20, 70, 150);
        store.setPrice(0, 0, 3);
        store.setPrice(2, 2, 100);
        store.tick(1);
        Check.due("paid() after 0", store.paid(), 450);
        store.tick(1);
        Check.due("paid() after 1", store.paid(), 1950);
        store.tick(1);
        Check.due("paid() after 2", store.paid(), 16950);
        Check.due("room(2, 5) of a machine that is off", store.room(2, 5), 0);
        store.defrost(0);
        store.tick(1);
        Check.due("paid() with one defrosting", store.paid(), 17450);
        store.foretell(0, 100);
        Check.due("paid() after foretelling", store.paid(), 17450);
        store.setPrice(0, 23, 1);
        Check.due("paid() after a new price", store.paid(), 17450);
    }

    private static void outsideIsTakenAtTheBeginning() {
        ColdStore store = new ColdStore();
        store.addRoom(1, 20, 0, 150);
        store.setOutside(150, 60);
        store.tick(9);
        Check.due("temperature at 9, the hour 8 has the base", store.room(0, 0), 150);
        store.tick(1);
        Check.due("temperature at 10, the hour 9 has 160", store.room(0, 0), 151);
    }

    private static void tickAnswersTheNewlySpoiled() {
        ColdStore store = still(150);
        store.addProduct(150, 150, 10, 0);
        store.addProduct(150, 150, 12, 0);
        store.arrive(0, 0, 150);
        store.arrive(1, 0, 150);
        Check.due("tick(10)", store.tick(10), 0);
        Check.due("tick(1)", store.tick(1), 1);
        Check.due("tick(1) again", store.tick(1), 0);
        store.arrive(0, 0, 150);
        Check.due("tick(50)", store.tick(50), 2);
        Check.due("tick(200)", store.tick(200), 0);
        store.clear();
        store.arrive(1, 0, 150);
        store.ship(1, 1, 0);
        Check.due("tick(200) with none", store.tick(200), 0);
    }

    private static void wrongTicksAreRefused() {
        Check.refusesArgument("tick(0)", () -> running(), s -> s.tick(0));
        Check.refusesArgument("tick(-1)", () -> running(), s -> s.tick(-1));
        Check.refusesArgument("tick(201)", () -> running(), s -> s.tick(201));
        Check.refusesArgument("tick(most)", () -> running(), s -> s.tick(Integer.MAX_VALUE));
        Check.refusesArgument("tick(2) at 1999", () -> at(1999), s -> s.tick(2));
        Check.refusesArgument("tick(1) at 2000", () -> at(2000), s -> s.tick(1));
        ColdStore store = at(1800);
        store.tick(200);
        Check.due("now() after the last tick", store.now(), 2000);
    }

    private static void foretellChangesNothing() {
        ColdStore store = running();
        ColdStore twin = running();
        for (int hours = 0; hours <= 100; hours++) {
            Check.due("foretell(0, " + hours + ")", running().foretell(0, hours), twin.room(0, 0));
            Check.due("foretell(1, " + hours + ")", store.foretell(1, hours), foretoldBy(hours));
            twin.tick(1);
        }
        Check.dueText("the state after foretelling", State.of(store), State.of(running()));
        store.tick(101);
        Check.dueText("the state a while after foretelling", State.of(store), State.of(twin));
    }

    private static int foretoldBy(int hours) {
        ColdStore store = running();
        if (hours > 0) {
            store.tick(hours);
        }
        return store.room(1, 0);
    }

    private static void foretellGoesBeyondTheEnd() {
        ColdStore store = new ColdStore();
        store.addRoom(1, 20, 0, 150);
        for (int i = 0; i < 10; i++) {
            store.tick(200);
        }
        store.setOutside(150, 60);
        // 2000 is 8 of the day: after it comes 9, which has 160
        Check.due("foretell(0, 0) at 2000", store.foretell(0, 0), 150);
        Check.due("foretell(0, 1) at 2000", store.foretell(0, 1), 150);
        Check.due("foretell(0, 2) at 2000", store.foretell(0, 2), 151);
        Check.due("now() after it", store.now(), 2000);
    }

    private static void wrongForetellingIsRefused() {
        Check.refusesIndex("foretell(-1, 0)", () -> running(), s -> s.foretell(-1, 0));
        Check.refusesIndex("foretell(2, 101)", () -> running(), s -> s.foretell(2, 101));
        Check.refusesArgument("foretell(0, -1)", () -> running(), s -> s.foretell(0, -1));
        Check.refusesArgument("foretell(0, 101)", () -> running(), s -> s.foretell(0, 101));
    }

    private static ColdStore withLife(int life) {
        ColdStore store = still(150);
        store.addProduct(150, 150, life, 0);
        store.arrive(0, 0, 150);
        return store;
    }

    private static void lastsTellsTheHourOfSpoiling() {
        Check.due("lasts(0) of life 10", withLife(10).lasts(0), 11);
        Check.due("lasts(0) of life 498", withLife(498).lasts(0), 499);
        Check.due("lasts(0) of life 499", withLife(499).lasts(0), 500);
        Check.due("lasts(0) of life 500", withLife(500).lasts(0), 500);
        Check.due("lasts(0) of life 5000", withLife(5000).lasts(0), 500);
        ColdStore store = withLife(10);
        store.tick(10);
        Check.due("lasts(0) with nothing left", store.lasts(0), 1);
        store.tick(1);
        Check.due("lasts(0) of a spoiled one", store.lasts(0), 0);
        for (int pallet = 0; pallet < 3; pallet++) {
            ColdStore asked = running();
            int hours = asked.lasts(pallet);
            Check.dueText("the state after lasts", State.of(asked), State.of(running()));
            Check.due("left an hour before lasts(" + pallet + ") is < 0",
                    later(running(), hours - 1).pallet(pallet, 4) < 0 ? 1 : 0, 0);
            Check.due("left after lasts(" + pallet + ") is < 0",
                    later(running(), hours).pallet(pallet, 4) < 0 ? 1 : 0, 1);
            Check.dueText("the state later", State.of(later(asked, hours)), State.of(later(running(), hours)));
        }
        Check.due("lasts(2) at 2000", at(2000).lasts(2), 0);
    }

    private static ColdStore withOneGone() {
        ColdStore store = running();
        store.ship(0, 1, 0);
        return store;
    }

    private static void wrongLastingIsRefused() {
        Check.refusesIndex("lasts(-1)", () -> running(), s -> s.lasts(-1));
        Check.refusesIndex("lasts(3)", () -> running(), s -> s.lasts(3));
        Check.refusesIndex("lasts(60)", () -> running(), s -> s.lasts(60));
        int gone = withOneGone().pallet(0, 3) < 0 ? 0 : 1;
        Check.refusesState("lasts of one that is gone", () -> withOneGone(), s -> s.lasts(gone));
    }

    private static void nowIsTheTime() {
        ColdStore store = new ColdStore();
        store.tick(1);
        Check.due("now()", store.now(), 1);
        store.tick(200);
        Check.due("now()", store.now(), 201);
        store.setOutside(0, 0);
        Check.due("now() again", store.now(), 201);
    }

    private static void freshnessIsTheMean() {
        ColdStore store = still(150);
        store.addProduct(150, 150, 10, 0);
        store.addProduct(150, 150, 10, 0);
        Check.dueDouble("freshness(0) without pallets", store.freshness(0), 0.0);
        store.arrive(0, 0, 150);
        store.tick(1);
        store.arrive(0, 0, 150);
        Check.dueDouble("freshness(0) of 9, 10", store.freshness(0), 9.5);
        store.tick(1);
        store.arrive(0, 0, 150);
        Check.dueDouble("freshness(0) of 8, 9, 10", store.freshness(0), 9.0);
        store.tick(11);
        Check.dueDouble("freshness(0) of -3, -2, -1", store.freshness(0), -2.0);
        store.clear();
        store.arrive(0, 0, 150);
        store.tick(3);
        store.arrive(0, 0, 150);
        store.arrive(0, 0, 150);
        Check.dueDouble("freshness(0) of 7, 10, 10", store.freshness(0), 27.0 / 3.0);
        store.tick(1);
        store.ship(0, 1, 0);
        Check.dueDouble("freshness(0) of 9, 9", store.freshness(0), 9.0);
        store.arrive(0, 0, 150);
        Check.dueDouble("freshness(0) of 9, 9, 10", store.freshness(0), 28.0 / 3.0);
        Check.dueDouble("freshness(1)", store.freshness(1), 0.0);
        store.tick(10);
        store.ship(0, 60, 0);
        store.clear();
        Check.dueDouble("freshness(0) of none again", store.freshness(0), 0.0);
        Check.refusesIndex("freshness(-1)", () -> running(), s -> s.freshness(-1));
        Check.refusesIndex("freshness(2)", () -> running(), s -> s.freshness(2));
    }

    private static void digestIsTheSumOfAll() {
        // 349, then the time and five counts that are 0, then what was paid
        Check.due("digest() at first", new ColdStore().digest(), 349L * 31 * 31 * 31 * 31 * 31 * 31 * 31);
        digestOf("running()", running());
        digestOf("running() later", at(300));
        digestOf("with one gone", withOneGone());
    }

    private static void digestOf(String name, ColdStore store) {
        long d = 349;
        d = d * 31 + store.now();
        for (int what = 0; what < 5; what++) {
            d = d * 31 + store.count(what);
        }
        for (int room = 0; room < store.count(1); room++) {
            for (int what = 0; what < 7; what++) {
                d = d * 31 + store.room(room, what);
            }
            d = d * 31 + (room == 1 ? 1 : 0);
        }
        for (int pallet = 0; pallet < store.count(2); pallet++) {
            for (int what = 0; what < 5; what++) {
                d = d * 31 + store.pallet(pallet, what);
            }
        }
        d = d * 31 + store.paid();
        Check.due("digest() " + name, store.digest(), d);
    }
}
