import java.math.BigInteger;

/** The boundary cases of promises 19 to 25 and of the time, sentence by sentence. */
public final class TimeBoundsTest {
    public static void main(String[] args) {
        timeGoesFrom0To2000();
        timeGoesOnByTickAlone();
        tickIsBounded();
        tickIsBoundedByTheTime();
        tickAnswersTheNewlySpoiled();
        tickCountsNoneThatIsGone();
        foretellIsBounded();
        foretellFrom0To100Hours();
        lastsIsBounded();
        lastsIsRefusedWhenGone();
        lastsFrom0To500Hours();
        lastsIfNothingIsDone();
        paidIsOfAllRoomsAndHours();
        freshnessIsBounded();
        freshnessOfNone();
        freshnessIsTheMean();
        digestOfWhatIsThere();
        digestWrapsAround();
        Check.end("TimeBoundsTest");
    }

    // ---- the time

    private static void timeGoesFrom0To2000() {
        Check.sentence("Terms", "Time is counted in hours, from 0 to 2000; it goes on by tick alone.");
        Check.due("now() at first", new ColdStore().now(), 0);
        ColdStore store = Scenes.workingAt(1999);
        Check.due("now() at 1999", store.now(), 1999);
        store.tick(1);
        Check.due("now() at the end", store.now(), 2000);
        ColdStore byTwoHundred = new ColdStore();
        for (int i = 1; i <= 10; i++) {
            Check.answers("tick(200)", byTwoHundred, s -> s.tick(200), 0);
            Check.due("now()", byTwoHundred.now(), 200 * i);
        }
    }

    private static void timeGoesOnByTickAlone() {
        Check.sentence("Terms", "it goes on by tick alone.");
        ColdStore store = Scenes.working();
        store.setOutside(0, 0);
        store.setPrice(0, 23, 7);
        store.addProduct(0, 0, 10, 0);
        store.addRoom(1, 1, 0, 0);
        store.setRoom(0, 0, true);
        store.defrost(0);
        store.arrive(0, 0, 0);
        store.move(5, 1);
        store.ship(0, 1, 0);
        store.clear();
        store.foretell(0, 100);
        store.lasts(2);
        store.digest();
        State.of(store);
        Check.due("now() after all other calls", store.now(), 9);
    }

    private static void tickIsBounded() {
        Check.sentence("Promise 19", "if hours is not 1 to 200, or the time would be greater than 2000");
        Bounds.argument("hours", 1, 200, () -> Scenes.working(), (s, hours) -> s.tick(hours));
        Bounds.argument("hours of a new store", 1, 200, ColdStore::new, (s, hours) -> s.tick(hours));
    }

    private static void tickIsBoundedByTheTime() {
        Check.sentence("Promise 19", "if hours is not 1 to 200, or the time would be greater than 2000");
        Bounds.argument("hours at 1799", 1, 200, () -> Scenes.workingAt(1799), (s, hours) -> s.tick(hours));
        Bounds.argument("hours at 1800", 1, 200, () -> Scenes.workingAt(1800), (s, hours) -> s.tick(hours));
        Bounds.argument("hours at 1801", 1, 199, () -> Scenes.workingAt(1801), (s, hours) -> s.tick(hours));
        Bounds.argument("hours at 1900", 1, 100, () -> Scenes.workingAt(1900), (s, hours) -> s.tick(hours));
        Bounds.argument("hours at 1998", 1, 2, () -> Scenes.workingAt(1998), (s, hours) -> s.tick(hours));
        Bounds.argument("hours at 1999", 1, 1, () -> Scenes.workingAt(1999), (s, hours) -> s.tick(hours));
        Check.refusesArgument("tick(1) at 2000", () -> Scenes.workingAt(2000), s -> s.tick(1));
        Check.refusesArgument("tick(0) at 2000", () -> Scenes.workingAt(2000), s -> s.tick(0));
        Check.refusesArgument("tick(-1) at 2000", () -> Scenes.workingAt(2000), s -> s.tick(-1));
        Check.refusesArgument("tick(200) at 2000", () -> Scenes.workingAt(2000), s -> s.tick(200));
        Check.refusesArgument("tick(most) at 2000", () -> Scenes.workingAt(2000), s -> s.tick(Integer.MAX_VALUE));
    }

    private static void tickAnswersTheNewlySpoiled() {
        Check.sentence("Promise 19", "Returns how many pallets became spoiled in them (and are not gone).");
        int[][] due = {{1, 0}, {9, 0}, {10, 0}, {11, 1}, {12, 1}, {200, 1}};
        for (int[] row : due) {
            Check.answers("tick(" + row[0] + ") of life 10", Scenes.stillWithLife(10), s -> s.tick(row[0]), row[1]);
        }
        ColdStore store = Scenes.stillWithLife(10);
        store.tick(10);
        Check.due("tick(1) with 0 left", store.tick(1), 1);
        Check.due("tick(1) with -1 left", store.tick(1), 0);
        ColdStore many = Scenes.stillWithLife(10);
        many.addRoom(2, 1, 0, 150);
        many.arrive(0, 1, 150);
        many.tick(1);
        many.arrive(0, 1, 150);
        Check.due("tick(9)", many.tick(9), 0);
        Check.due("tick(1), two spoil in two rooms", many.tick(1), 2);
        Check.due("tick(1), the third spoils", many.tick(1), 1);
        Check.due("tick(200), all are spoiled", many.tick(200), 0);
        Check.due("tick(200) of sixty", Scenes.withSixtyPallets().tick(200), 60);
    }

    private static void tickCountsNoneThatIsGone() {
        Check.sentence("Promise 19", "Returns how many pallets became spoiled in them (and are not gone).");
        ColdStore shipped = Scenes.stillWithLife(10);
        shipped.arrive(0, 0, 150);
        shipped.tick(10);
        shipped.ship(0, 1, 0);
        Check.due("tick(1) with one of two shipped", shipped.tick(1), 1);
        Check.due("pallet(0, 4) of the one shipped", shipped.pallet(0, 4), 0);
        shipped.clear();
        Check.due("tick(1) with the other one cleared", shipped.tick(1), 0);
        Check.due("tick(200) after all sixty are gone", Scenes.afterSixtyPallets().tick(200), 0);
    }

    // ---- promise 20

    private static void foretellIsBounded() {
        Check.sentence("Promise 20", "if there is no such room");
        Bounds.index("room of three", 0, 2, () -> Scenes.working(), (s, room) -> s.foretell(room, 1));
        Bounds.index("room of six", 0, 5, () -> Scenes.withSixRooms(), (s, room) -> s.foretell(room, 100));
        Check.sentence("Promise 20", "if hours is not 0 to 100");
        Bounds.argument("hours", 0, 100, () -> Scenes.working(), (s, hours) -> s.foretell(0, hours));
        Bounds.argument("hours at 2000", 0, 100, () -> Scenes.workingAt(2000), (s, hours) -> s.foretell(1, hours));
    }

    private static ColdStore defrosting() {
        ColdStore store = Scenes.working();
        store.defrost(0);
        return store;
    }

    private static void foretellFrom0To100Hours() {
        Check.sentence("Promise 20", "Returns its temperature, if so many hours passed and nothing was done meanwhile.");
        int[] hours = {0, 1, 2, 3, 4, 24, 99, 100};
        for (int many : hours) {
            for (int room = 0; room < 3; room++) {
                ColdStore later = defrosting();
                if (many > 0) {
                    later.tick(many);
                }
                Check.due("foretell(" + room + ", " + many + ")",
                        defrosting().foretell(room, many), later.room(room, 0));
            }
        }
        ColdStore asked = defrosting();
        asked.foretell(0, 100);
        Check.dueText("the state after foretell(0, 100)", State.of(asked), State.of(defrosting()));
    }

    // ---- promise 21

    private static ColdStore withTwoPallets() {
        ColdStore store = Scenes.stillWithLife(100);
        store.arrive(0, 0, 20);
        store.tick(3);
        return store;
    }

    private static void lastsIsBounded() {
        Check.sentence("Promise 21", "if there is no such pallet");
        Bounds.index("pallet of two", 0, 1, () -> withTwoPallets(), (s, pallet) -> s.lasts(pallet));
        Bounds.index("pallet of sixty", 0, 59, () -> Scenes.withSixtyPallets(), (s, pallet) -> s.lasts(pallet));
    }

    private static void lastsIsRefusedWhenGone() {
        Check.sentence("Promise 21", "if it is gone");
        Check.refusesState("lasts(4), shipped", () -> Scenes.working(), s -> s.lasts(4));
        Check.refusesState("lasts(1), spoiled and thrown away", () -> {
            ColdStore store = Scenes.working();
            store.clear();
            return store;
        }, s -> s.lasts(1));
        Check.refusesState("lasts(59) after sixty", () -> Scenes.afterSixtyPallets(), s -> s.lasts(59));
    }

    private static void lastsFrom0To500Hours() {
        Check.sentence("Promise 21",
                "Returns this number; 0 if it is spoiled; 500 if it is not spoiled after 500 hours.");
        int[][] lives = {{10, 11}, {100, 101}, {497, 498}, {498, 499}, {499, 500}, {500, 500}, {501, 500}, {5000, 500}};
        for (int[] row : lives) {
            Check.answers("lasts(0) of life " + row[0], Scenes.stillWithLife(row[0]), s -> s.lasts(0), row[1]);
        }
        int[][] hours = {{8, 3}, {9, 2}, {10, 1}, {11, 0}, {12, 0}, {200, 0}};
        for (int[] row : hours) {
            ColdStore store = Scenes.stillWithLife(10);
            store.tick(row[0]);
            Check.answers("lasts(0) of life 10 after " + row[0] + " hours", store, s -> s.lasts(0), row[1]);
            Check.due("pallet(0, 2) after it", store.pallet(0, 2), row[0]);
        }
        ColdStore old = Scenes.stillWithLife(600);
        old.tick(100);
        Check.answers("lasts(0) of life 600 after 100 hours", old, s -> s.lasts(0), 500);
        old.tick(2);
        Check.answers("lasts(0) of life 600 after 102 hours", old, s -> s.lasts(0), 499);
    }

    private static void lastsIfNothingIsDone() {
        Check.sentence("Promise 21", "the number of hours after which it is spoiled, if nothing was done meanwhile.");
        for (int pallet = 0; pallet < 4; pallet++) {
            int hours = defrosting().lasts(pallet);
            Check.due("spoiled after lasts(" + pallet + ")", isSpoiledAfter(hours, pallet) ? 1 : 0, 1);
            if (hours > 0) {
                Check.due("spoiled before lasts(" + pallet + ")", isSpoiledAfter(hours - 1, pallet) ? 1 : 0, 0);
            }
        }
        ColdStore atTheEnd = Scenes.stillWithLife(10);
        for (int i = 0; i < 10; i++) {
            atTheEnd.tick(200);
        }
        int fresh = atTheEnd.arrive(0, 0, 150);
        Check.answers("lasts(" + fresh + ") of life 10 at 2000", atTheEnd, s -> s.lasts(fresh), 11);
        ColdStore asked = defrosting();
        asked.lasts(0);
        asked.lasts(2);
        Check.dueText("the state after lasts(..)", State.of(asked), State.of(defrosting()));
    }

    private static boolean isSpoiledAfter(int hours, int pallet) {
        ColdStore store = defrosting();
        for (int i = 0; i < hours; i++) {
            store.tick(1);
        }
        return store.pallet(pallet, 4) < 0;
    }

    // ---- promise 23

    private static void paidIsOfAllRoomsAndHours() {
        Check.sentence("Promise 23", "Returns what was paid for energy so far.");
        ColdStore store = new ColdStore();
        Check.due("paid() at first", store.paid(), 0);
        store.setPrice(0, 23, 100);
        store.setOutside(400, 200);
        for (int room = 0; room < 6; room++) {
            store.addRoom(1, 20, 200, -300);
        }
        for (int i = 1; i <= 10; i++) {
            store.tick(200);
            Check.due("paid() at " + store.now(), store.paid(), 6L * 200 * 200 * 100 * i);
            Check.due("room(5, 5) at " + store.now(), store.room(5, 5), 200 * 200 * i);
        }
        Check.due("room(5, 6) at the end", store.room(5, 6), 2000);
    }

    // ---- promise 24

    private static void freshnessIsBounded() {
        Check.sentence("Promise 24", "if there is no such product");
        Bounds.index("product of five", 0, 4, () -> Scenes.working(), (s, product) -> s.freshness(product));
        Bounds.index("product of twelve", 0, 11, () -> Scenes.withTwelveProducts(), (s, p) -> s.freshness(p));
    }

    private static void freshnessOfNone() {
        Check.sentence("Promise 24", "0 if there are none.");
        ColdStore store = Scenes.stillWithLife(10);
        store.addProduct(0, 0, 10, 0);
        Check.dueDouble("freshness(1) of none that came", store.freshness(1), 0.0);
        Check.dueDouble("freshness(0) of one", store.freshness(0), 10.0);
        store.ship(0, 1, 0);
        Check.dueDouble("freshness(0) of one that was shipped", store.freshness(0), 0.0);
        ColdStore cleared = Scenes.stillWithLife(10);
        cleared.tick(11);
        Check.dueDouble("freshness(0) of a spoiled one", cleared.freshness(0), -1.0);
        cleared.clear();
        Check.dueDouble("freshness(0) of one that was thrown away", cleared.freshness(0), 0.0);
    }

    private static void freshnessIsTheMean() {
        Check.sentence("Promise 24", "Returns the mean of what is left of all its pallets that are not gone");
        ColdStore store = Scenes.stillWithLife(10);
        store.tick(1);
        store.arrive(0, 0, 150);
        Check.dueDouble("freshness(0) of 9, 10", store.freshness(0), 9.5);
        store.arrive(0, 0, 150);
        Check.dueDouble("freshness(0) of 9, 10, 10", store.freshness(0), 29.0 / 3.0);
        store.tick(10);
        Check.dueDouble("freshness(0) of -1, 0, 0", store.freshness(0), -1.0 / 3.0);
        store.ship(0, 1, 0);
        Check.dueDouble("freshness(0) of -1, 0", store.freshness(0), -0.5);
        store.clear();
        Check.dueDouble("freshness(0) of 0", store.freshness(0), 0.0);
        store.tick(1);
        Check.dueDouble("freshness(0) of -1", store.freshness(0), -1.0);
        store.arrive(0, 0, 150);
        Check.dueDouble("freshness(0) of -1, 10", store.freshness(0), 4.5);
        Check.dueDouble("freshness(0) of 30 of 60", Scenes.withSixtyPallets().freshness(0), 100.0);
    }

    // ---- promise 25

    private static long digestOf(long... numbers) {
        return exactDigest(numbers).longValue();
    }

    /** Without any wrap-around; longValue() takes the lowest 64 bits. */
    private static BigInteger exactDigest(long... numbers) {
        BigInteger d = BigInteger.valueOf(349);
        for (long x : numbers) {
            d = d.multiply(BigInteger.valueOf(31)).add(BigInteger.valueOf(x));
        }
        return d;
    }

    private static void digestOfWhatIsThere() {
        Check.sentence("Promise 25", "for each of the following numbers x, d becomes d * 31 + x");
        ColdStore store = new ColdStore();
        Check.due("digest() at first", store.digest(), digestOf(0, 0, 0, 0, 0, 0, 0));
        store.addProduct(-300, 200, 100, 0);
        Check.due("digest() with a product", store.digest(), digestOf(0, 1, 0, 0, 0, 0, 0));
        store.tick(200);
        Check.due("digest() at 200", store.digest(), digestOf(200, 1, 0, 0, 0, 0, 0));
        store.addRoom(2, 20, 20, -100);
        Check.due("digest() with a room", store.digest(),
                digestOf(200, 1, 1, 0, 0, 0, 150, -100, 0, 0, 2, 0, 0, 0, 0));
        store.setRoom(0, -100, true);
        Check.due("digest() with a thrifty room", store.digest(),
                digestOf(200, 1, 1, 0, 0, 0, 150, -100, 0, 0, 2, 0, 0, 1, 0));
        store.arrive(0, 0, 100);
        Check.due("digest() with a pallet", store.digest(),
                digestOf(200, 1, 1, 1, 1, 0, 150, -100, 0, 0, 1, 0, 0, 1, 0, 100, 0, 0, 100, 0));
        store.tick(1);
        // 150 - 50 / 40 - 20 / 10 = 147 and 100 + 47 / 8 = 105
        Check.due("digest() an hour later", store.digest(),
                digestOf(201, 1, 1, 1, 1, 0, 147, -100, 1, 1, 1, 20, 1, 1, 0, 105, 1, 0, 99, 200));
        store.ship(0, 1, 0);
        Check.due("digest() after it was shipped", store.digest(),
                digestOf(201, 1, 1, 1, 0, 1, 147, -100, 1, 1, 2, 20, 1, 1, 0, 105, 1, -1, 99, 200));
        store.defrost(0);
        Check.due("digest() while it defrosts", store.digest(),
                digestOf(201, 1, 1, 1, 0, 1, 147, -100, 1, 2, 2, 20, 1, 1, 0, 105, 1, -1, 99, 200));
    }

    private static void digestWrapsAround() {
        Check.sentence("Promise 25", "which wraps around as a 64-bit integer");
        // with a room, 349 is multiplied by 31 fifteen times: 2 to the 63rd is passed on the way
        BigInteger exact = exactDigest(0, 0, 1, 0, 0, 0, 150, 150, 0, 0, 3, 0, 0, 0, 0);
        Check.due("the exact digest has more than 63 bits", exact.bitLength() > 63 ? 1 : 0, 1);
        Check.due("digest() with a room", Scenes.still(150).digest(), exact.longValue());
        dueDigestOfFacts("working", Scenes.working());
        dueDigestOfFacts("full of rooms", Scenes.withSixRooms());
        dueDigestOfFacts("full of pallets", Scenes.withSixtyPallets());
        dueDigestOfFacts("at the end", Scenes.workingAt(2000));
    }

    private static void dueDigestOfFacts(String name, ColdStore store) {
        long[] numbers = new long[7 + 8 * 6 + 5 * 60];
        int many = 0;
        numbers[many++] = store.now();
        for (int what = 0; what <= 4; what++) {
            numbers[many++] = store.count(what);
        }
        int rooms = store.count(1);
        for (int room = 0; room < rooms; room++) {
            for (int what = 0; what <= 6; what++) {
                numbers[many++] = store.room(room, what);
            }
            boolean isThrifty = room == 1 && store.count(0) == 5;
            numbers[many++] = isThrifty ? 1 : 0;
        }
        int pallets = store.count(2);
        for (int pallet = 0; pallet < pallets; pallet++) {
            for (int what = 0; what <= 4; what++) {
                numbers[many++] = store.pallet(pallet, what);
            }
        }
        numbers[many++] = store.paid();
        Check.due("digest() " + name, store.digest(), digestOf(java.util.Arrays.copyOf(numbers, many)));
    }
}
