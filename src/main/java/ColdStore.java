/** A cold store: its rooms and their machines, the pallets in them, and what the energy costs. */
public final class ColdStore {
    private static final int MOST_PRODUCTS = 12;
    private static final int MOST_ROOMS = 6;
    private static final int MOST_PALLETS = 60;
    private static final int HOURS_OF_DAY = 24;
    private static final int LAST_TIME = 2000;
    private static final int LONGEST_TICK = 200;
    private static final int LONGEST_FORETELLING = 100;
    private static final int LONGEST_LASTING = 500;
    private static final int LOWEST_TEMPERATURE = -300;
    private static final int HIGHEST_TEMPERATURE = 400;
    private static final int HIGHEST_SUITING = 200;
    private static final int HIGHEST_AIM = 150;
    private static final int COUNTS_TOLD = 5;
    private static final int ROOM_FACTS = 7;
    private static final int PALLET_FACTS = 5;

    private final Air air = new Air();
    private final Tariff tariff = new Tariff();
    private final Product[] products = new Product[MOST_PRODUCTS];
    private final Room[] rooms = new Room[MOST_ROOMS];
    private final Pallet[] pallets = new Pallet[MOST_PALLETS];
    private int productCount = 0;
    private int roomCount = 0;
    private int palletCount = 0;
    private int shippedCount = 0;
    private int time = 0;
    private long paid = 0;

    public ColdStore() {
    }

    // ---- outside, products and rooms

    public int setOutside(int base, int swing) throws IllegalArgumentException {
        requireWithin(base, LOWEST_TEMPERATURE, HIGHEST_TEMPERATURE);
        requireWithin(swing, 0, 200);
        air.base = base;
        air.swing = swing;
        return air.temperatureAt(time);
    }

    public int outside(int hour) throws IllegalArgumentException {
        requireWithin(hour, 0, HOURS_OF_DAY - 1);
        return air.temperatureAt(hour);
    }

    public int setPrice(int from, int to, int price) throws IllegalArgumentException {
        requireWithin(from, 0, to);
        requireWithin(to, from, HOURS_OF_DAY - 1);
        requireWithin(price, 1, 100);
        tariff.charge(from, to, price);
        return tariff.lowest;
    }

    public int addProduct(int low, int high, int life, int smell)
            throws IllegalArgumentException, IllegalStateException {
        requireWithin(low, LOWEST_TEMPERATURE, HIGHEST_SUITING);
        requireWithin(high, low, HIGHEST_SUITING);
        requireWithin(life, 10, 5000);
        requireWithin(smell, Product.NEUTRAL, Product.STRONG);
        if (productCount >= products.length) {
            throw new IllegalStateException("no more products");
        }
        products[productCount] = new Product(productCount, low, high, life, smell);
        return productCount++;
    }

    public int addRoom(int places, int wall, int power, int aim)
            throws IllegalArgumentException, IllegalStateException {
        requireWithin(places, 1, 20);
        requireWithin(wall, 1, 20);
        requireWithin(power, 0, 200);
        requireWithin(aim, LOWEST_TEMPERATURE, HIGHEST_AIM);
        if (roomCount >= rooms.length) {
            throw new IllegalStateException("no more rooms");
        }
        rooms[roomCount] = new Room(roomCount, places, wall, power, aim);
        return roomCount++;
    }

    public int setRoom(int room, int aim, boolean isThrifty)
            throws IndexOutOfBoundsException, IllegalArgumentException {
        Room changed = existingRoom(room);
        requireWithin(aim, LOWEST_TEMPERATURE, HIGHEST_AIM);
        int aimBefore = changed.aim;
        changed.aim = aim;
        changed.isThrifty = isThrifty;
        return aimBefore;
    }

    public int defrost(int room) throws IndexOutOfBoundsException, IllegalStateException {
        Machine machine = existingRoom(room).machine;
        if (machine.state == Machine.DEFROSTING) {
            throw new IllegalStateException("it defrosts already");
        }
        machine.beginDefrosting();
        return machine.frost;
    }

    public int room(int room, int what) throws IndexOutOfBoundsException {
        Room told = existingRoom(room);
        requireFact(what, ROOM_FACTS);
        return told.fact(what);
    }

    // ---- pallets

    public int reason(int product, int room) throws IndexOutOfBoundsException {
        Product asked = existingProduct(product);
        return existingRoom(room).reasonAgainst(asked);
    }

    public int arrive(int product, int room, int temperature)
            throws IndexOutOfBoundsException, IllegalArgumentException, IllegalStateException {
        Product brought = existingProduct(product);
        Room target = existingRoom(room);
        requireWithin(temperature, LOWEST_TEMPERATURE, HIGHEST_TEMPERATURE);
        if (!target.accepts(brought) || palletCount >= pallets.length) {
            throw new IllegalStateException("the pallet cannot be put there");
        }
        Pallet arrived = new Pallet(brought, temperature);
        target.take(arrived);
        pallets[palletCount] = arrived;
        return palletCount++;
    }

    public int move(int pallet, int room) throws IndexOutOfBoundsException, IllegalStateException {
        Pallet moved = existingPallet(pallet);
        Room target = existingRoom(room);
        Room origin = moved.room;
        if (origin == null || origin == target || !target.accepts(moved.product)) {
            throw new IllegalStateException("the pallet cannot be moved there");
        }
        origin.release(moved);
        target.take(moved);
        return origin.number;
    }

    public int pallet(int pallet, int what) throws IndexOutOfBoundsException {
        Pallet told = existingPallet(pallet);
        requireFact(what, PALLET_FACTS);
        return told.fact(what);
    }

    public int bestRoom(int product) throws IndexOutOfBoundsException {
        Product asked = existingProduct(product);
        Room best = null;
        for (Room room : rooms) {
            if (room != null && room.accepts(asked)
                    && (best == null || room.isBetterFor(asked, best))) {
                best = room;
            }
        }
        return best == null ? -1 : best.number;
    }

    public int ship(int product, int many, int least)
            throws IndexOutOfBoundsException, IllegalArgumentException {
        Product ordered = existingProduct(product);
        requireWithin(many, 1, MOST_PALLETS);
        if (least < 0) {
            throw new IllegalArgumentException("less than nothing");
        }
        int shipped = 0;
        Pallet next = nextToShip(ordered, least);
        while (shipped < many && next != null) {
            leave(next);
            shipped++;
            next = nextToShip(ordered, least);
        }
        shippedCount += shipped;
        return shipped;
    }

    public int clear() {
        int cleared = 0;
        for (Pallet pallet : pallets) {
            if (pallet != null && pallet.isHere() && pallet.isSpoiled()) {
                leave(pallet);
                cleared++;
            }
        }
        return cleared;
    }

    public int stock(int product, boolean isSpoiled) throws IndexOutOfBoundsException {
        Product asked = existingProduct(product);
        int found = 0;
        for (Pallet pallet : pallets) {
            if (pallet != null && pallet.isHereWith(asked) && pallet.isSpoiled() == isSpoiled) {
                found++;
            }
        }
        return found;
    }

    public int count(int what) throws IndexOutOfBoundsException {
        requireFact(what, COUNTS_TOLD);
        return countOf(what);
    }

    // ---- time and money

    public int tick(int hours) throws IllegalArgumentException {
        requireWithin(hours, 1, Math.min(LONGEST_TICK, LAST_TIME - time));
        int spoiledBefore = spoiledHere();
        for (int i = 0; i < hours; i++) {
            passHourEverywhere();
        }
        return spoiledHere() - spoiledBefore;
    }

    public int foretell(int room, int hours)
            throws IndexOutOfBoundsException, IllegalArgumentException {
        Room foretold = existingRoom(room);
        requireWithin(hours, 0, LONGEST_FORETELLING);
        foretold.remember();
        for (int i = 0; i < hours; i++) {
            passHourIn(foretold, time + i);
        }
        int temperature = foretold.temperature;
        foretold.recall();
        return temperature;
    }

    public int lasts(int pallet) throws IndexOutOfBoundsException, IllegalStateException {
        Pallet watched = existingPallet(pallet);
        Room room = watched.room;
        if (room == null) {
            throw new IllegalStateException("the pallet is gone");
        }
        room.remember();
        int hours = 0;
        while (hours < LONGEST_LASTING && !watched.isSpoiled()) {
            passHourIn(room, time + hours);
            hours++;
        }
        room.recall();
        return hours;
    }

    public int now() {
        return time;
    }

    public long paid() {
        return paid;
    }

    public double freshness(int product) throws IndexOutOfBoundsException {
        Product asked = existingProduct(product);
        long sum = 0;
        int found = 0;
        for (Pallet pallet : pallets) {
            if (pallet != null && pallet.isHereWith(asked)) {
                sum += pallet.left();
                found++;
            }
        }
        return found == 0 ? 0 : (double) sum / found;
    }

    public long digest() {
        long d = mix(349, time);
        for (int what = 0; what < COUNTS_TOLD; what++) {
            d = mix(d, countOf(what));
        }
        d = mixRooms(d);
        d = mixPallets(d);
        return mix(d, paid);
    }

    // ---- what the calls have in common

    private static void requireWithin(int value, int least, int most) {
        if (value < least || value > most) {
            throw new IllegalArgumentException("out of range");
        }
    }

    private static void requireFact(int what, int facts) {
        if (what < 0 || what >= facts) {
            throw new IndexOutOfBoundsException("no such fact");
        }
    }

    private Product existingProduct(int number) {
        Product found = number >= 0 && number < products.length ? products[number] : null;
        if (found == null) {
            throw new IndexOutOfBoundsException("no such product");
        }
        return found;
    }

    private Room existingRoom(int number) {
        Room found = number >= 0 && number < rooms.length ? rooms[number] : null;
        if (found == null) {
            throw new IndexOutOfBoundsException("no such room");
        }
        return found;
    }

    private Pallet existingPallet(int number) {
        Pallet found = number >= 0 && number < pallets.length ? pallets[number] : null;
        if (found == null) {
            throw new IndexOutOfBoundsException("no such pallet");
        }
        return found;
    }

    private int countOf(int what) {
        switch (what) {
            case 0: return productCount;
            case 1: return roomCount;
            case 2: return palletCount;
            case 3: return palletsHere();
            default: return shippedCount;
        }
    }

    private int palletsHere() {
        int here = 0;
        for (Pallet pallet : pallets) {
            if (pallet != null && pallet.isHere()) {
                here++;
            }
        }
        return here;
    }

    private int spoiledHere() {
        int spoiled = 0;
        for (Pallet pallet : pallets) {
            if (pallet != null && pallet.isHere() && pallet.isSpoiled()) {
                spoiled++;
            }
        }
        return spoiled;
    }

    // What is asked to be left is never negative, so a spoiled pallet cannot have it.
    private Pallet nextToShip(Product product, int least) {
        Pallet next = null;
        for (Pallet pallet : pallets) {
            if (pallet != null && pallet.isHereWith(product) && pallet.left() >= least
                    && (next == null || pallet.left() < next.left())) {
                next = pallet;
            }
        }
        return next;
    }

    private static void leave(Pallet pallet) {
        Room room = pallet.room;
        if (room != null) {
            room.release(pallet);
        }
    }

    private void passHourEverywhere() {
        int price = tariff.priceAt(time);
        for (Room room : rooms) {
            if (room != null) {
                paid += (long) price * passHourIn(room, time);
            }
        }
        time++;
    }

    // Foretelling may go beyond the last time: only the hour of the day matters.
    private int passHourIn(Room room, int hour) {
        return room.passHour(air.temperatureAt(hour), tariff.isLowestAt(hour));
    }

    private static long mix(long d, long x) {
        return d * 31 + x;
    }

    private long mixRooms(long start) {
        long d = start;
        for (Room room : rooms) {
            if (room != null) {
                for (int what = 0; what < ROOM_FACTS; what++) {
                    d = mix(d, room.fact(what));
                }
                d = mix(d, room.isThrifty ? 1 : 0);
            }
        }
        return d;
    }

    private long mixPallets(long start) {
        long d = start;
        for (Pallet pallet : pallets) {
            if (pallet != null) {
                for (int what = 0; what < PALLET_FACTS; what++) {
                    d = mix(d, pallet.fact(what));
                }
            }
        }
        return d;
    }

    private static final class Air {
        int base = 150;
        int swing = 0;

        int temperatureAt(int time) {
            int hour = Math.floorMod(time, HOURS_OF_DAY);
            if (hour < 8 || hour > 20) {
                return base;
            }
            return base + swing * (6 - Math.abs(hour - 14)) / 6;
        }
    }

    private static final class Tariff {
        final int[] prices = new int[HOURS_OF_DAY];
        int lowest = 10;

        Tariff() {
            for (int hour = 0; hour < prices.length; hour++) {
                prices[hour] = lowest;
            }
        }

        void charge(int from, int to, int price) {
            lowest = price;
            for (int hour = 0; hour < prices.length; hour++) {
                if (hour >= from && hour <= to) {
                    prices[hour] = price;
                }
                lowest = Math.min(lowest, prices[hour]);
            }
        }

        // An hour of the day always has a price; every index is looked at all the same.
        int priceAt(int time) {
            int hour = Math.floorMod(time, HOURS_OF_DAY);
            return hour >= 0 && hour < prices.length ? prices[hour] : lowest;
        }

        boolean isLowestAt(int time) {
            return priceAt(time) == lowest;
        }
    }

    private static final class Product {
        static final int NEUTRAL = 0;
        static final int SMELLING = 1;
        static final int SENSITIVE = 2;
        static final int STRONG = 3;

        final int number;
        final int low;
        final int high;
        final int life;
        final int smell;

        Product(int number, int low, int high, int life, int smell) {
            this.number = number;
            this.low = low;
            this.high = high;
            this.life = life;
            this.smell = smell;
        }

        int distanceFromSuiting(int temperature) {
            if (temperature < low) {
                return low - temperature;
            }
            return temperature > high ? temperature - high : 0;
        }

        boolean goesWith(Product other) {
            if (number == other.number) {
                return true;
            }
            if (smell == STRONG || other.smell == STRONG) {
                return false;
            }
            return !disturbs(other) && !other.disturbs(this);
        }

        boolean disturbs(Product other) {
            return smell == SMELLING && other.smell == SENSITIVE;
        }
    }

    private static final class Machine {
        static final int OFF = 0;
        static final int ON = 1;
        static final int DEFROSTING = 2;
        static final int HOURS_OF_DEFROSTING = 3;
        static final int MOST_FROST = 90;

        final int power;
        int state = OFF;
        int hoursLeft = 0;
        int frost = 0;
        int energy = 0;

        Machine(int power) {
            this.power = power;
        }

        void beginDefrosting() {
            state = DEFROSTING;
            hoursLeft = HOURS_OF_DEFROSTING;
        }

        void beginHour(int aboveAim, boolean isStoringCold) {
            if (state == DEFROSTING) {
                defrostOneHour();
            } else if (isStoringCold) {
                state = aboveAim < -25 ? OFF : ON;
            } else if (aboveAim > 5) {
                state = ON;
            } else if (aboveAim < -5) {
                state = OFF;
            }
        }

        private void defrostOneHour() {
            hoursLeft--;
            if (hoursLeft <= 0) {
                frost = 0;
                state = OFF;
            }
        }

        int warmthOfHour() {
            switch (state) {
                case ON: return -power * (100 - frost) / 1000;
                case DEFROSTING: return 8;
                default: return 0;
            }
        }

        int useEnergy() {
            if (state != ON) {
                return 0;
            }
            energy += power;
            frost = Math.min(frost + 1, MOST_FROST);
            return power;
        }

        void imitate(Machine other) {
            state = other.state;
            hoursLeft = other.hoursLeft;
            frost = other.frost;
            energy = other.energy;
        }
    }

    private static final class Room {
        static final int NO_PLACE = 1;
        static final int NOT_TOGETHER = 2;

        final int number;
        final int wall;
        final Machine machine;
        final Pallet[] places;
        int aim;
        boolean isThrifty = false;
        int temperature = 150;
        int warmHours = 0;
        final Machine rememberedMachine;
        int rememberedTemperature = 0;
        int rememberedWarmHours = 0;

        Room(int number, int places, int wall, int power, int aim) {
            this.number = number;
            this.places = new Pallet[places < 0 ? 0 : places];
            this.wall = wall;
            this.machine = new Machine(power);
            this.rememberedMachine = new Machine(power);
            this.aim = aim;
        }

        int fact(int what) {
            switch (what) {
                case 0: return temperature;
                case 1: return aim;
                case 2: return machine.frost;
                case 3: return machine.state;
                case 4: return freePlaces();
                case 5: return machine.energy;
                default: return warmHours;
            }
        }

        int freePlaces() {
            int free = 0;
            for (Pallet pallet : places) {
                if (pallet == null) {
                    free++;
                }
            }
            return free;
        }

        int reasonAgainst(Product product) {
            if (freePlaces() == 0) {
                return NO_PLACE;
            }
            for (Pallet pallet : places) {
                if (pallet != null && !pallet.product.goesWith(product)) {
                    return NOT_TOGETHER;
                }
            }
            return 0;
        }

        boolean accepts(Product product) {
            return reasonAgainst(product) == 0;
        }

        boolean isBetterFor(Product product, Room other) {
            int distance = product.distanceFromSuiting(aim);
            int otherDistance = product.distanceFromSuiting(other.aim);
            if (distance != otherDistance) {
                return distance < otherDistance;
            }
            return freePlaces() > other.freePlaces();
        }

        void take(Pallet pallet) {
            for (int i = 0; i < places.length; i++) {
                if (places[i] == null) {
                    places[i] = pallet;
                    pallet.room = this;
                    return;
                }
            }
        }

        void release(Pallet pallet) {
            for (int i = 0; i < places.length; i++) {
                if (places[i] == pallet) {
                    places[i] = null;
                    pallet.room = null;
                }
            }
        }

        // Answers the energy used, because its price is not known here.
        int passHour(int outside, boolean isLowestPrice) {
            machine.beginHour(temperature - aim, isThrifty && isLowestPrice);
            int throughWall = (outside - temperature) * wall / 200;
            int warmth = throughWall + warmthOfPallets() + machine.warmthOfHour();
            temperature += warmth;
            int used = machine.useEnergy();
            for (Pallet pallet : places) {
                if (pallet != null) {
                    pallet.adaptTo(temperature);
                }
            }
            if (temperature > aim + 20) {
                warmHours++;
            }
            return used;
        }

        private int warmthOfPallets() {
            int warmth = 0;
            for (Pallet pallet : places) {
                if (pallet != null) {
                    warmth += (pallet.temperature - temperature) / 40;
                }
            }
            return warmth;
        }

        // What is foretold is played through in the room itself and taken back,
        // so that no call has to make a second room.
        void remember() {
            rememberedMachine.imitate(machine);
            rememberedTemperature = temperature;
            rememberedWarmHours = warmHours;
            for (Pallet pallet : places) {
                if (pallet != null) {
                    pallet.remember();
                }
            }
        }

        void recall() {
            machine.imitate(rememberedMachine);
            temperature = rememberedTemperature;
            warmHours = rememberedWarmHours;
            for (Pallet pallet : places) {
                if (pallet != null) {
                    pallet.recall();
                }
            }
        }
    }

    private static final class Pallet {
        final Product product;
        Room room = null;
        int temperature;
        int age = 0;
        int rememberedTemperature = 0;
        int rememberedAge = 0;

        Pallet(Product product, int temperature) {
            this.product = product;
            this.temperature = temperature;
        }

        int fact(int what) {
            switch (what) {
                case 0: return product.number;
                case 1: return temperature;
                case 2: return age;
                case 3: return room == null ? -1 : room.number;
                default: return left();
            }
        }

        boolean isHere() {
            return room != null;
        }

        boolean isHereWith(Product wanted) {
            return isHere() && product.number == wanted.number;
        }

        int left() {
            return product.life - age;
        }

        boolean isSpoiled() {
            return left() < 0;
        }

        void adaptTo(int roomTemperature) {
            temperature += (roomTemperature - temperature) / 8;
            age += 1 + product.distanceFromSuiting(temperature) / 10;
        }

        void remember() {
            rememberedTemperature = temperature;
            rememberedAge = age;
        }

        void recall() {
            temperature = rememberedTemperature;
            age = rememberedAge;
        }
    }
}
