/**
 * Long runs of calls on a ColdStore and on a PlainStore side by side: all promises together.
 * The calls come from a sequence that is the same every time.
 */
public final class PlainStoreTest {
    private static final int RUNS = 2000;
    // with a digest() after every third of them, these are the 512 calls that an object is used for
    private static final int CALLS = 384;

    private static long seed = 1;

    private interface Call {
        String answer();
    }

    public static void main(String[] args) {
        for (int run = 0; run < RUNS; run++) {
            seed = run * 7919L + 17;
            oneRun(run, run % 4);
        }
        Check.end("PlainStoreTest");
    }

    private static int any(int bound) {
        seed = seed * 6364136223846793005L + 1442695040888963407L;
        return (int) ((seed >>> 33) % bound);
    }

    /** Mostly from least to most, often the ends and what lies beside them, at times anything. */
    private static int about(int least, int most) {
        switch (any(24)) {
            case 0: return least;
            case 1: return most;
            case 2: return any(4) == 0 ? least - 1 : least;
            case 3: return any(4) == 0 ? most + 1 : most;
            case 4: return any(6) == 0 ? wild() : least;
            default: return least + any(most - least + 1);
        }
    }

    private static int wild() {
        int[] wild = {Integer.MIN_VALUE, Integer.MAX_VALUE, -1, 1 << 20, -1000, Integer.MIN_VALUE + 1};
        return wild[any(wild.length)];
    }

    private static int numberUpTo(int many) {
        return any(25) == 0 ? about(-1, many) : many == 0 ? 0 : any(many);
    }

    private static String said(Call call) {
        try {
            return call.answer();
        } catch (RuntimeException e) {
            return e.getClass().getName();
        }
    }

    private static void both(String name, Call tested, Call plain) {
        Check.dueText(name, said(tested), said(plain));
    }

    private static void oneRun(int run, int kind) {
        ColdStore x = new ColdStore();
        PlainStore y = new PlainStore();
        for (int i = 0; i < CALLS; i++) {
            String place = "run " + run + ", call " + i + ": ";
            int choice = i < 12 ? any(4) : any(40);
            if (choice < 8) {
                settingUp(place, x, y, choice);
            } else if (choice < 24) {
                handling(place, x, y, choice, kind);
            } else {
                asking(place, x, y, choice, kind);
            }
            if (i % 3 == 2) {
                Check.due(place + "digest()", x.digest(), y.digest());
            }
        }
    }

    private static void settingUp(String place, ColdStore x, PlainStore y, int choice) {
        int a = about(-300, 200);
        int aim = about(-300, 150);
        int room = numberUpTo(y.count(1));
        switch (choice) {
            case 0, 1 -> {
                int b = any(10) == 0 ? about(-300, 200) : Math.min(200, a + any(80));
                int life = any(2) == 0 ? about(10, 5000) : about(10, 300);
                int smell = any(3) == 0 ? about(0, 3) : 0;
                both(place + "addProduct", () -> "" + x.addProduct(a, b, life, smell),
                        () -> "" + y.addProduct(a, b, life, smell));
            }
            case 2, 3 -> {
                int places = about(1, 20);
                int wall = about(1, 20);
                int power = about(0, 200);
                both(place + "addRoom", () -> "" + x.addRoom(places, wall, power, aim),
                        () -> "" + y.addRoom(places, wall, power, aim));
            }
            case 4 -> {
                int base = about(-300, 400);
                int swing = about(0, 200);
                both(place + "setOutside", () -> "" + x.setOutside(base, swing),
                        () -> "" + y.setOutside(base, swing));
            }
            case 5 -> {
                int from = about(0, 23);
                int to = any(8) == 0 ? about(0, 23) : Math.max(from, any(24));
                int price = about(1, any(2) == 0 ? 100 : 12);
                both(place + "setPrice", () -> "" + x.setPrice(from, to, price),
                        () -> "" + y.setPrice(from, to, price));
            }
            case 6 -> {
                boolean isThrifty = any(2) == 0;
                both(place + "setRoom", () -> "" + x.setRoom(room, aim, isThrifty),
                        () -> "" + y.setRoom(room, aim, isThrifty));
            }
            default -> both(place + "defrost", () -> "" + x.defrost(room), () -> "" + y.defrost(room));
        }
    }

    private static void handling(String place, ColdStore x, PlainStore y, int choice, int kind) {
        int product = numberUpTo(y.count(0));
        int room = numberUpTo(y.count(1));
        int pallet = numberUpTo(y.count(2));
        if (choice < 13) {
            int warm = about(-300, 400);
            both(place + "arrive", () -> "" + x.arrive(product, room, warm),
                    () -> "" + y.arrive(product, room, warm));
        } else if (choice < 16) {
            both(place + "move", () -> "" + x.move(pallet, room), () -> "" + y.move(pallet, room));
        } else if (choice < 18) {
            int many = any(3) == 0 ? about(1, 60) : about(1, 3);
            int least = any(3) == 0 ? about(0, 4000) : about(0, 20);
            both(place + "ship", () -> "" + x.ship(product, many, least),
                    () -> "" + y.ship(product, many, least));
        } else if (choice == 18 && any(3) == 0) {
            both(place + "clear", () -> "" + x.clear(), () -> "" + y.clear());
        } else {
            int hours = kind == 0 ? about(1, 3) : kind == 1 ? about(1, 12) : kind == 2 ? 1 : about(1, 200);
            both(place + "tick", () -> "" + x.tick(hours), () -> "" + y.tick(hours));
        }
    }

    private static void asking(String place, ColdStore x, PlainStore y, int choice, int kind) {
        int product = numberUpTo(y.count(0));
        int room = numberUpTo(y.count(1));
        int pallet = numberUpTo(y.count(2));
        int what = about(0, 6);
        boolean isSpoiled = any(2) == 0;
        int hours = about(0, any(6) == 0 ? 100 : 10);
        int hour = about(0, 23);
        switch (choice) {
            case 24 -> both(place + "outside", () -> "" + x.outside(hour), () -> "" + y.outside(hour));
            case 25 -> both(place + "room", () -> "" + x.room(room, what), () -> "" + y.room(room, what));
            case 26 -> both(place + "reason", () -> "" + x.reason(product, room), () -> "" + y.reason(product, room));
            case 27 -> both(place + "pallet", () -> "" + x.pallet(pallet, what), () -> "" + y.pallet(pallet, what));
            case 28, 29 -> both(place + "bestRoom", () -> "" + x.bestRoom(product), () -> "" + y.bestRoom(product));
            case 30 -> both(place + "stock", () -> "" + x.stock(product, isSpoiled), () -> "" + y.stock(product, isSpoiled));
            case 31 -> both(place + "count", () -> "" + x.count(what), () -> "" + y.count(what));
            case 32, 33 -> both(place + "foretell", () -> "" + x.foretell(room, hours), () -> "" + y.foretell(room, hours));
            case 34 -> both(place + "lasts", () -> "" + x.lasts(pallet), () -> "" + y.lasts(pallet));
            case 35 -> both(place + "now", () -> "" + x.now(), () -> "" + y.now());
            case 36 -> both(place + "paid", () -> "" + x.paid(), () -> "" + y.paid());
            default -> both(place + "freshness", () -> "" + x.freshness(product), () -> "" + y.freshness(product));
        }
    }
}
