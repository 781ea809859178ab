/** The boundary cases of how an hour passes, as the document's terms say it, sentence by sentence. */
public final class HourBoundsTest {
    private static final int COLD = 120;

    public static void main(String[] args) {
        swingIsFrom8To20();
        hourOfTheDayIsTheTimeModulo24();
        machineTurnsBesideTheAim();
        thriftyMachineTurnsBelowTheAim();
        lowestPriceIsOfAllHours();
        lowestPriceInTheFirstHourAndTheLast();
        defrostingTakesThreeHours();
        defrostingMachineNeitherCoolsNorPays();
        frostIsAtMost90();
        coolingIsByTheFrostAheadOfIt();
        coolingIsCut();
        wallIsCutTowardsZero();
        palletsAreCutTowardsZeroEach();
        sumsAreOfWhatWasCut();
        palletFollowsTheRoomAsItIsNow();
        palletAgesByTens();
        palletAgesByWhatItIsNow();
        warmHoursAreMoreThan20Above();
        Check.end("HourBoundsTest");
    }

    // ---- the air outside

    private static void swingIsFrom8To20() {
        Check.sentence("Terms", "the swing (0, at first) times (6 - |h - 14|) / 6 more for h from 8 to 20, "
                + "the product divided last; at other hours it has the base.");
        int[][] swings = {
            {0, 0, 0, 0, 0, 0, 0}, {1, 0, 0, 0, 0, 0, 1}, {5, 0, 1, 2, 3, 4, 5}, {6, 1, 2, 3, 4, 5, 6},
            {7, 1, 2, 3, 4, 5, 7}, {11, 1, 3, 5, 7, 9, 11}, {200, 33, 66, 100, 133, 166, 200}};
        int[] bases = {-300, -3, 0, 400};
        for (int[] row : swings) {
            for (int base : bases) {
                ColdStore store = new ColdStore();
                store.setOutside(base, row[0]);
                for (int hour = 0; hour < 24; hour++) {
                    int fromBase = 6 - Math.abs(hour - 14);
                    int more = fromBase > 0 ? row[fromBase] : 0;
                    Check.due("outside(" + hour + ") of " + base + ", " + row[0], store.outside(hour), base + more);
                }
            }
        }
    }

    private static void hourOfTheDayIsTheTimeModulo24() {
        Check.sentence("Terms", "The hour of the day is the time modulo 24.");
        int[] times = {0, 7, 8, 9, 14, 19, 20, 21, 23, 24, 25, 32, 33, 38, 43, 44, 47, 48, 1977, 1991, 1992, 1999};
        int[] more = {0, 0, 0, 1, 6, 1, 0, 0, 0, 0, 0, 0, 1, 6, 1, 0, 0, 0, 1, 0, 0, 0};
        for (int i = 0; i < times.length; i++) {
            ColdStore store = new ColdStore();
            store.addRoom(1, 20, 1, -300);
            while (store.now() < times[i]) {
                store.tick(Math.min(200, times[i] - store.now()));
            }
            int warm = store.room(0, 0);
            store.setPrice(times[i] % 24, times[i] % 24, 77);
            store.setOutside(warm, 60);
            long paid = store.paid();
            store.tick(1);
            Check.due("temperature after the hour " + times[i], store.room(0, 0), warm + more[i]);
            Check.due("paid for the hour " + times[i], store.paid() - paid, 77);
        }
    }

    // ---- step (1): the machine

    /** At 120, its machine on or off, its aim 120 less d; nothing changes its temperature any more. */
    private static ColdStore aboveAim(int d, boolean isOn, boolean isThrifty) {
        ColdStore store = new ColdStore();
        store.addRoom(1, 20, 0, isOn ? -300 : 150);
        store.setOutside(-150, 0);
        store.tick(1);
        store.setOutside(COLD, 0);
        store.setRoom(0, COLD - d, isThrifty);
        Check.due("room(0, 0)", store.room(0, 0), COLD);
        Check.due("room(0, 3)", store.room(0, 3), isOn ? 1 : 0);
        return store;
    }

    private static void machineTurnsBesideTheAim() {
        Check.sentence("Terms", "Any other one: it is on if T is greater than the aim and 5, "
                + "off if T is less than the aim less 5, and stays as it is between.");
        int[] above = {-30, -26, -25, -7, -6, -5, -4, -1, 0, 1, 4, 5, 6, 7, 25, 26, 420};
        for (int d : above) {
            for (int before = 0; before <= 1; before++) {
                ColdStore store = aboveAim(d, before == 1, false);
                Check.due("room(0, 3) at once", store.room(0, 3), before);
                store.tick(1);
                int due = d > 5 ? 1 : d < -5 ? 0 : before;
                Check.due("room(0, 3) at the aim and " + d + ", before " + before, store.room(0, 3), due);
                Check.due("room(0, 2) of it", store.room(0, 2), before + due);
            }
        }
    }

    private static void thriftyMachineTurnsBelowTheAim() {
        Check.sentence("Terms", "it is off if T is less than the aim less 25, otherwise on.");
        int[] above = {-30, -27, -26, -25, -24, -7, -6, -5, 0, 5, 6, 7, 420};
        for (int d : above) {
            for (int before = 0; before <= 1; before++) {
                ColdStore store = aboveAim(d, before == 1, true);
                store.tick(1);
                Check.due("room(0, 3) at the aim and " + d + ", before " + before,
                        store.room(0, 3), d < -25 ? 0 : 1);
                ColdStore dear = aboveAim(d, before == 1, true);
                dear.setPrice(1, 1, 11);
                dear.tick(1);
                int due = d > 5 ? 1 : d < -5 ? 0 : before;
                Check.due("room(0, 3) at the aim and " + d + ", before " + before + ", at a higher price",
                        dear.room(0, 3), due);
            }
        }
    }

    private static void lowestPriceIsOfAllHours() {
        Check.sentence("Terms", "in a thrifty room at an hour whose price is the lowest one of all 24");
        // from, to, price; whether the hour 1 has the lowest price then
        int[][] prices = {
            {1, 1, 9, 1}, {1, 1, 10, 1}, {1, 1, 11, 0}, {0, 0, 9, 0}, {0, 0, 11, 1}, {2, 2, 9, 0}, {2, 2, 11, 1},
            {23, 23, 9, 0}, {23, 23, 11, 1}, {0, 23, 1, 1}, {0, 23, 100, 1}, {2, 23, 11, 1}, {2, 23, 9, 0}};
        for (int[] row : prices) {
            ColdStore store = aboveAim(0, false, true);
            store.setPrice(row[0], row[1], row[2]);
            store.tick(1);
            Check.due("room(0, 3) after setPrice(" + row[0] + ", " + row[1] + ", " + row[2] + ")",
                    store.room(0, 3), row[3]);
        }
    }

    private static void lowestPriceInTheFirstHourAndTheLast() {
        Check.sentence("Terms", "in a thrifty room at an hour whose price is the lowest one of all 24");
        int[][] due = {{0, 0, 1}, {0, 22, 0}, {0, 23, 0}, {0, 24, 1}, {23, 22, 0}, {23, 23, 1}, {23, 24, 0}, {1, 24, 0}};
        for (int[] row : due) {
            ColdStore store = Scenes.still(150);
            if (row[1] > 0) {
                store.tick(row[1]);
            }
            store.setPrice(row[0], row[0], 9);
            store.setRoom(0, 150, true);
            store.tick(1);
            Check.due("room(0, 3) after the hour " + row[1] + ", " + row[0] + " is the lowest",
                    store.room(0, 3), row[2]);
        }
    }

    private static void defrostingTakesThreeHours() {
        Check.sentence("Terms", "a machine that defrosts: its hours left become 1 less; "
                + "if they are 0 then, the frost is 0, and it is off.");
        for (int thrifty = 0; thrifty <= 1; thrifty++) {
            ColdStore store = new ColdStore();
            store.addRoom(1, 1, 0, 100);
            store.setRoom(0, 100, thrifty == 1);
            store.tick(2);
            store.defrost(0);
            int[][] due = {{2, 2, 158}, {2, 2, 166}, {0, 0, 166}, {1, 1, 166}};
            for (int hour = 0; hour < due.length; hour++) {
                String name = " in the hour " + (hour + 1) + ", thrifty " + thrifty;
                store.tick(1);
                Check.due("machine" + name, store.room(0, 3), due[hour][0]);
                Check.due("frost" + name, store.room(0, 2), due[hour][1]);
                Check.due("temperature" + name, store.room(0, 0), due[hour][2]);
            }
        }
    }

    private static void defrostingMachineNeitherCoolsNorPays() {
        Check.sentence("Terms", "and by 8, if the machine defrosts (one whose defrosting ends in this hour "
                + "is off by then).");
        ColdStore store = new ColdStore();
        store.addRoom(1, 1, 200, -300);
        store.setRoom(0, -300, true);
        store.defrost(0);
        // temperature, energy, paid
        int[][] due = {{158, 0, 0}, {166, 0, 0}, {166, 0, 0}, {146, 200, 2000}};
        for (int hour = 0; hour < due.length; hour++) {
            store.tick(1);
            Check.due("room(0, 0) after the hour " + hour, store.room(0, 0), due[hour][0]);
            Check.due("room(0, 5) after the hour " + hour, store.room(0, 5), due[hour][1]);
            Check.due("paid() after the hour " + hour, store.paid(), due[hour][2]);
        }
    }

    // ---- step (2): the room

    private static void frostIsAtMost90() {
        Check.sentence("Terms", "and the frost becomes 1 greater, but not more than 90.");
        int[][] due = {{1, 1}, {2, 2}, {88, 88}, {89, 89}, {90, 90}, {91, 90}, {92, 90}, {200, 90}};
        for (int[] row : due) {
            ColdStore store = new ColdStore();
            store.addRoom(1, 20, 1, -300);
            store.tick(row[0]);
            Check.due("room(0, 2) after " + row[0] + " hours", store.room(0, 2), row[1]);
            Check.due("room(0, 5) after " + row[0] + " hours", store.room(0, 5), row[0]);
        }
        ColdStore off = Scenes.still(150);
        off.tick(5);
        Check.due("room(0, 2) of a machine that is off", off.room(0, 2), 0);
    }

    /** How much colder a machine makes a room in the hour after so many; the air outside is as warm. */
    private static int coldness(int power, int hoursBefore) {
        ColdStore store = new ColdStore();
        store.addRoom(1, 20, power, -300);
        if (hoursBefore > 0) {
            store.tick(hoursBefore);
        }
        int before = store.room(0, 0);
        store.setOutside(before, 0);
        store.tick(1);
        return before - store.room(0, 0);
    }

    private static void coolingIsByTheFrostAheadOfIt() {
        Check.sentence("Terms", "(All of this by T, and by the frost ahead of it; the sums are added together.)");
        // 27 * 37, 37 * 27 and 54 * 37 lack 1 or 2 to the next thousand
        int[][] due = {{10, 0, 1}, {10, 1, 0}, {11, 9, 1}, {11, 10, 0}, {50, 80, 1}, {50, 81, 0},
            {90, 88, 1}, {90, 89, 0}, {100, 89, 1}, {100, 90, 1}, {100, 120, 1}, {99, 90, 0}, {200, 120, 2},
            {27, 63, 0}, {28, 63, 1}, {37, 73, 0}, {54, 63, 1}};
        for (int[] row : due) {
            Check.due("coldness by " + row[0] + " after " + row[1] + " hours", coldness(row[0], row[1]), row[2]);
        }
    }

    private static void coolingIsCut() {
        Check.sentence("Terms", "If the machine is on, it becomes colder by power * (100 - frost) / 1000");
        int[][] due = {{0, 0}, {9, 0}, {10, 1}, {19, 1}, {20, 2}, {199, 19}, {200, 20}};
        for (int[] row : due) {
            Check.due("coldness by " + row[0], coldness(row[0], 0), row[1]);
        }
    }

    private static void wallIsCutTowardsZero() {
        Check.sentence("Terms", "What is said to be divided is cut towards 0.");
        // wall, how much warmer it is outside, how much warmer the room becomes
        int[][] due = {
            {1, 199, 0}, {1, 200, 1}, {1, -199, 0}, {1, -200, -1}, {1, -399, -1}, {1, -400, -2}, {1, 0, 0},
            {3, 66, 0}, {3, 67, 1}, {3, -66, 0}, {3, -67, -1}, {20, 9, 0}, {20, 10, 1}, {20, 19, 1}, {20, 20, 2},
            {20, -9, 0}, {20, -10, -1}, {20, -19, -1}, {20, -20, -2}, {20, -450, -45}, {20, 250, 25}};
        for (int[] row : due) {
            ColdStore store = new ColdStore();
            store.addRoom(1, row[0], 0, 150);
            store.setOutside(150 + row[1], 0);
            store.tick(1);
            Check.due("warmth through the wall " + row[0] + " by " + row[1], store.room(0, 0) - 150, row[2]);
        }
    }

    /** A room at 150 with a product that suits from low to high, whatever is asked of it. */
    private static ColdStore withProduct(int low, int high) {
        ColdStore store = new ColdStore();
        store.addRoom(20, 20, 0, 150);
        store.addProduct(low, high, 5000, 0);
        return store;
    }

    private static void palletsAreCutTowardsZeroEach() {
        Check.sentence("Terms", "by the sum over all pallets in it of (their temperature - T) / 40, "
                + "each divided by itself");
        // how much warmer the room becomes, and how much warmer each pallet is than it
        int[][] due = {
            {0, 39}, {1, 40}, {1, 79}, {2, 80}, {0, -39}, {-1, -40}, {-1, -79}, {-2, -80}, {0, 39, 39}, {0, -39, -39},
            {1, 39, 41}, {0, 40, -40}, {1, 40, -39}, {-1, 39, -40}, {3, 40, 40, 40}, {0, 39, 39, 39, 39}, {6, 250},
            {-11, -450}};
        for (int[] row : due) {
            ColdStore store = withProduct(-300, 200);
            StringBuilder name = new StringBuilder("warmth of pallets");
            for (int i = 1; i < row.length; i++) {
                store.arrive(0, 0, 150 + row[i]);
                name.append(' ').append(row[i]);
            }
            store.tick(1);
            Check.due(name.toString(), store.room(0, 0) - 150, row[0]);
        }
    }

    private static void sumsAreOfWhatWasCut() {
        Check.sentence("Terms", "(All of this by T, and by the frost ahead of it; the sums are added together.)");
        // power, how much warmer it is outside, how much warmer a pallet is, how much warmer the room becomes
        int[][] due = {
            {0, 9, 39, 0}, {0, -9, -39, 0}, {9, 9, 39, 0}, {9, -9, -39, 0}, {0, 10, 40, 2}, {10, 10, 40, 1},
            {0, 100, 40, 11}, {200, 100, 40, -9}, {200, -100, -40, -31}, {19, 19, -79, -1}};
        for (int[] row : due) {
            ColdStore store = new ColdStore();
            store.addRoom(1, 20, row[0], 0);
            store.addProduct(-300, 200, 5000, 0);
            store.setOutside(150 + row[1], 0);
            store.arrive(0, 0, 150 + row[2]);
            store.tick(1);
            Check.due("warmth by power " + row[0] + ", outside " + row[1] + ", pallet " + row[2],
                    store.room(0, 0) - 150, row[3]);
        }
    }

    // ---- step (3): the pallets

    private static void palletFollowsTheRoomAsItIsNow() {
        Check.sentence("Terms", "P becomes greater by (T' - P) / 8, T' being the temperature of the room now");
        int[][] cut = {{0, 0}, {7, 0}, {8, 1}, {15, 1}, {16, 2}, {-7, 0}, {-8, -1}, {-15, -1}, {-16, -2}};
        for (int[] row : cut) {
            ColdStore store = withProduct(-300, 200);
            store.arrive(0, 0, 150 - row[0]);
            store.tick(1);
            Check.due("pallet(0, 1) by " + row[0], store.pallet(0, 1), 150 - row[0] + row[1]);
            ColdStore changing = withProduct(-300, 200);
            changing.setOutside(150 + 10 * row[0], 0);
            changing.arrive(0, 0, 150);
            changing.tick(1);
            Check.due("room(0, 0) by " + row[0], changing.room(0, 0), 150 + row[0]);
            Check.due("pallet(0, 1) by the room's " + row[0], changing.pallet(0, 1), 150 + row[1]);
        }
    }

    private static void palletAgesByTens() {
        Check.sentence("Terms", "then its age becomes greater by 1, and by as many as P (as it is now) is outside of "
                + "what suits its product, divided by 10.");
        int[][] due = {{0, 1}, {1, 1}, {9, 1}, {10, 2}, {11, 2}, {19, 2}, {20, 3}, {49, 5}, {50, 6}};
        for (int[] row : due) {
            ColdStore cold = withProduct(150 + row[0], 200);
            cold.arrive(0, 0, 150);
            cold.tick(1);
            Check.due("pallet(0, 2) of one " + row[0] + " too cold", cold.pallet(0, 2), row[1]);
            ColdStore warm = withProduct(-300, 150 - row[0]);
            warm.arrive(0, 0, 150);
            warm.tick(1);
            Check.due("pallet(0, 2) of one " + row[0] + " too warm", warm.pallet(0, 2), row[1]);
        }
    }

    private static void palletAgesByWhatItIsNow() {
        Check.sentence("Terms", "as many as P (as it is now) is outside of what suits its product");
        // what suits, the temperature, the age after an hour; 142 becomes 143 and 158 becomes 157
        int[][] due = {
            {152, 200, 142, 1}, {153, 200, 142, 2}, {-300, 148, 158, 1}, {-300, 147, 158, 2},
            {-300, 133, 142, 2}, {-300, 134, 142, 1}, {167, 200, 158, 2}, {166, 200, 158, 1}};
        for (int[] row : due) {
            ColdStore store = withProduct(row[0], row[1]);
            store.arrive(0, 0, row[2]);
            store.tick(1);
            Check.due("pallet(0, 2) of " + row[2] + ", what suits being " + row[0] + " to " + row[1],
                    store.pallet(0, 2), row[3]);
        }
    }

    private static void warmHoursAreMoreThan20Above() {
        Check.sentence("Promise 9", "6 in how many hours so far its temperature was more than 20 above the aim, "
                + "at their end");
        // the aim, how much warmer it is outside (a tenth of it comes in), the warm hours after an hour
        int[][] due = {
            {131, 0, 0}, {130, 0, 0}, {129, 0, 1}, {128, 0, 1}, {130, 10, 1}, {130, 9, 0}, {131, 10, 0}, {131, 20, 1},
            {129, -10, 0}, {129, -9, 1}, {128, -10, 1}, {128, -20, 0}};
        for (int[] row : due) {
            ColdStore store = new ColdStore();
            store.addRoom(1, 20, 0, row[0]);
            store.setOutside(150 + row[1], 0);
            store.tick(1);
            Check.due("room(0, 6) with the aim " + row[0] + " and " + row[1] + " outside", store.room(0, 6), row[2]);
        }
    }
}
