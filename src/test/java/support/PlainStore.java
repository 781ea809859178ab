import java.util.ArrayList;
import java.util.List;

/**
 * The document once more, as naively as it can be written: every foretelling copies the whole store
 * and ticks the copy. It shares no code with ColdStore, so that a slip in one shows against the other.
 */
final class PlainStore {
    private int base = 150;
    private int swing = 0;
    private final int[] prices = new int[24];
    private final List<int[]> products = new ArrayList<>(); // low, high, life, smell
    private final List<Cell> cells = new ArrayList<>();
    private final List<Item> items = new ArrayList<>();
    private int shipped = 0;
    private int time = 0;
    private long paid = 0;

    private static final class Cell implements Cloneable {
        int places, wall, power, aim, warm = 150, frost, mode, left, energy, warmHours;
        boolean thrifty;

        Cell copy() {
            try {
                return (Cell) clone();
            } catch (CloneNotSupportedException e) {
                throw new IllegalStateException(e);
            }
        }
    }

    private static final class Item {
        int product, warm, age, cell;

        Item(int product, int warm, int age, int cell) {
            this.product = product;
            this.warm = warm;
            this.age = age;
            this.cell = cell;
        }
    }

    PlainStore() {
        java.util.Arrays.fill(prices, 10);
    }

    private PlainStore copy() {
        PlainStore other = new PlainStore();
        other.base = base;
        other.swing = swing;
        System.arraycopy(prices, 0, other.prices, 0, 24);
        other.products.addAll(products);
        for (Cell cell : cells) {
            other.cells.add(cell.copy());
        }
        for (Item item : items) {
            other.items.add(new Item(item.product, item.warm, item.age, item.cell));
        }
        other.shipped = shipped;
        other.time = time;
        other.paid = paid;
        return other;
    }

    private static void argument(boolean isRight) {
        if (!isRight) {
            throw new IllegalArgumentException();
        }
    }

    private static void state(boolean isRight) {
        if (!isRight) {
            throw new IllegalStateException();
        }
    }

    private static void index(int number, int many) {
        if (number < 0 || number >= many) {
            throw new IndexOutOfBoundsException();
        }
    }

    int setOutside(int base, int swing) {
        argument(-300 <= base && base <= 400 && 0 <= swing && swing <= 200);
        this.base = base;
        this.swing = swing;
        return outside(time % 24);
    }

    int outside(int hour) {
        argument(0 <= hour && hour <= 23);
        int[] sixths = {0, 0, 0, 0, 0, 0, 0, 0, 0, 1, 2, 3, 4, 5, 6, 5, 4, 3, 2, 1, 0, 0, 0, 0};
        return base + swing * sixths[hour] / 6;
    }

    private int lowestPrice() {
        int lowest = 100;
        for (int price : prices) {
            lowest = price < lowest ? price : lowest;
        }
        return lowest;
    }

    int setPrice(int from, int to, int price) {
        argument(!(from < 0 || from > to || to > 23 || price < 1 || price > 100));
        for (int hour = from; hour <= to; hour++) {
            prices[hour] = price;
        }
        return lowestPrice();
    }

    int addProduct(int low, int high, int life, int smell) {
        argument(-300 <= low && low <= 200 && low <= high && high <= 200);
        argument(10 <= life && life <= 5000 && 0 <= smell && smell <= 3);
        state(products.size() != 12);
        products.add(new int[] {low, high, life, smell});
        return products.size() - 1;
    }

    int addRoom(int places, int wall, int power, int aim) {
        argument(1 <= places && places <= 20 && 1 <= wall && wall <= 20);
        argument(0 <= power && power <= 200 && -300 <= aim && aim <= 150);
        state(cells.size() != 6);
        Cell cell = new Cell();
        cell.places = places;
        cell.wall = wall;
        cell.power = power;
        cell.aim = aim;
        cells.add(cell);
        return cells.size() - 1;
    }

    int setRoom(int room, int aim, boolean isThrifty) {
        index(room, cells.size());
        argument(-300 <= aim && aim <= 150);
        int before = cells.get(room).aim;
        cells.get(room).aim = aim;
        cells.get(room).thrifty = isThrifty;
        return before;
    }

    int defrost(int room) {
        index(room, cells.size());
        state(cells.get(room).mode != 2);
        cells.get(room).mode = 2;
        cells.get(room).left = 3;
        return cells.get(room).frost;
    }

    private int free(int room) {
        int free = cells.get(room).places;
        for (Item item : items) {
            free -= item.cell == room ? 1 : 0;
        }
        return free;
    }

    int room(int room, int what) {
        index(room, cells.size());
        index(what, 7);
        Cell c = cells.get(room);
        return new int[] {c.warm, c.aim, c.frost, c.mode, free(room), c.energy, c.warmHours}[what];
    }

    private boolean together(int a, int b) {
        int smellOfA = products.get(a)[3];
        int smellOfB = products.get(b)[3];
        boolean isMixed = smellOfA == 1 && smellOfB == 2 || smellOfA == 2 && smellOfB == 1;
        return a == b || smellOfA != 3 && smellOfB != 3 && !isMixed;
    }

    int reason(int product, int room) {
        index(product, products.size());
        index(room, cells.size());
        if (free(room) == 0) {
            return 1;
        }
        for (Item item : items) {
            if (item.cell == room && !together(item.product, product)) {
                return 2;
            }
        }
        return 0;
    }

    int arrive(int product, int room, int temperature) {
        index(product, products.size());
        index(room, cells.size());
        argument(-300 <= temperature && temperature <= 400);
        state(reason(product, room) == 0 && items.size() < 60);
        items.add(new Item(product, temperature, 0, room));
        return items.size() - 1;
    }

    int move(int pallet, int room) {
        index(pallet, items.size());
        index(room, cells.size());
        Item item = items.get(pallet);
        state(item.cell >= 0 && item.cell != room && reason(item.product, room) == 0);
        int before = item.cell;
        item.cell = room;
        return before;
    }

    private int left(Item item) {
        return products.get(item.product)[2] - item.age;
    }

    int pallet(int pallet, int what) {
        index(pallet, items.size());
        index(what, 5);
        Item i = items.get(pallet);
        return new int[] {i.product, i.warm, i.age, i.cell, left(i)}[what];
    }

    private int misfit(int product, int temperature) {
        int low = products.get(product)[0];
        int high = products.get(product)[1];
        return Math.max(0, Math.max(low - temperature, temperature - high));
    }

    int bestRoom(int product) {
        index(product, products.size());
        int best = -1;
        long bestRank = Long.MAX_VALUE;
        for (int room = 0; room < cells.size(); room++) {
            long rank = misfit(product, cells.get(room).aim) * 1000L - free(room);
            if (reason(product, room) == 0 && rank < bestRank) {
                best = room;
                bestRank = rank;
            }
        }
        return best;
    }

    int ship(int product, int many, int least) {
        index(product, products.size());
        argument(1 <= many && many <= 60 && least >= 0);
        List<Item> fit = new ArrayList<>();
        for (Item item : items) {
            if (item.product == product && item.cell >= 0 && left(item) >= 0 && left(item) >= least) {
                fit.add(item);
            }
        }
        fit.sort((a, b) -> Integer.compare(left(a), left(b)));
        int count = Math.min(many, fit.size());
        for (int i = 0; i < count; i++) {
            fit.get(i).cell = -1;
        }
        shipped += count;
        return count;
    }

    int clear() {
        int count = 0;
        for (Item item : items) {
            if (item.cell >= 0 && left(item) < 0) {
                item.cell = -1;
                count++;
            }
        }
        return count;
    }

    int stock(int product, boolean isSpoiled) {
        index(product, products.size());
        int count = 0;
        for (Item item : items) {
            if (item.product == product && item.cell >= 0 && left(item) < 0 == isSpoiled) {
                count++;
            }
        }
        return count;
    }

    int count(int what) {
        index(what, 5);
        int here = 0;
        for (Item item : items) {
            here += item.cell >= 0 ? 1 : 0;
        }
        return new int[] {products.size(), cells.size(), items.size(), here, shipped}[what];
    }

    private void switchMachine(Cell c) {
        if (c.mode == 2) {
            c.left--;
            if (c.left == 0) {
                c.frost = 0;
                c.mode = 0;
            }
        } else if (c.thrifty && prices[time % 24] == lowestPrice()) {
            c.mode = c.warm < c.aim - 25 ? 0 : 1;
        } else {
            c.mode = c.warm > c.aim + 5 ? 1 : c.warm < c.aim - 5 ? 0 : c.mode;
        }
    }

    private int hour(int number) {
        Cell c = cells.get(number);
        switchMachine(c);
        int change = (outside(time % 24) - c.warm) * c.wall / 200;
        for (Item item : items) {
            change += item.cell == number ? (item.warm - c.warm) / 40 : 0;
        }
        change += c.mode == 2 ? 8 : 0;
        if (c.mode == 1) {
            change -= c.power * (100 - c.frost) / 1000;
            c.energy += c.power;
            paid += c.power * prices[time % 24];
            c.frost = c.frost == 90 ? 90 : c.frost + 1;
        }
        c.warm += change;
        int spoiled = 0;
        for (Item item : items) {
            if (item.cell == number) {
                boolean wasGood = left(item) >= 0;
                item.warm += (c.warm - item.warm) / 8;
                item.age += 1 + misfit(item.product, item.warm) / 10;
                spoiled += wasGood && left(item) < 0 ? 1 : 0;
            }
        }
        c.warmHours += c.warm > c.aim + 20 ? 1 : 0;
        return spoiled;
    }

    private int pass(int hours) {
        int spoiled = 0;
        for (int i = 0; i < hours; i++) {
            for (int room = 0; room < cells.size(); room++) {
                spoiled += hour(room);
            }
            time++;
        }
        return spoiled;
    }

    int tick(int hours) {
        argument(1 <= hours && hours <= 200 && time + hours <= 2000);
        return pass(hours);
    }

    int foretell(int room, int hours) {
        index(room, cells.size());
        argument(0 <= hours && hours <= 100);
        PlainStore later = copy();
        later.pass(hours);
        return later.cells.get(room).warm;
    }

    int lasts(int pallet) {
        index(pallet, items.size());
        state(items.get(pallet).cell >= 0);
        PlainStore later = copy();
        for (int hours = 0; hours < 500; hours++) {
            if (later.pallet(pallet, 4) < 0) {
                return hours;
            }
            later.pass(1);
        }
        return 500;
    }

    int now() {
        return time;
    }

    long paid() {
        return paid;
    }

    double freshness(int product) {
        index(product, products.size());
        double sum = 0;
        int count = 0;
        for (Item item : items) {
            if (item.product == product && item.cell >= 0) {
                sum += left(item);
                count++;
            }
        }
        return count == 0 ? 0.0 : sum / count;
    }

    long digest() {
        List<Long> all = new ArrayList<>();
        all.add((long) time);
        for (int what = 0; what < 5; what++) {
            all.add((long) count(what));
        }
        for (int room = 0; room < cells.size(); room++) {
            for (int what = 0; what < 7; what++) {
                all.add((long) room(room, what));
            }
            all.add(cells.get(room).thrifty ? 1L : 0L);
        }
        for (int pallet = 0; pallet < items.size(); pallet++) {
            for (int what = 0; what < 5; what++) {
                all.add((long) pallet(pallet, what));
            }
        }
        all.add(paid);
        long d = 349;
        for (long x : all) {
            d = d * 31 + x;
        }
        return d;
    }
}
