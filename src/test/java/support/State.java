/**
 * All that can be seen of a store without changing it, as texts. Each of the two halves takes at most
 * some 360 calls, so that a store as full as can be stays under its 512.
 */
final class State {
    private State() {
    }

    /** Both halves, of a store with few pallets. */
    static String of(ColdStore store) {
        return ofStore(store) + ofPallets(store);
    }

    static String ofStore(ColdStore store) {
        StringBuilder text = new StringBuilder();
        text.append("now ").append(store.now()).append(" paid ").append(store.paid());
        text.append(" digest ").append(store.digest()).append(" counts");
        for (int what = 0; what < 5; what++) {
            text.append(' ').append(store.count(what));
        }
        text.append(" outside");
        for (int hour = 0; hour < 24; hour++) {
            text.append(' ').append(store.outside(hour));
        }
        int rooms = store.count(1);
        appendRooms(text, store, rooms);
        appendProducts(text, store, rooms);
        return text.toString();
    }

    private static void appendRooms(StringBuilder text, ColdStore store, int rooms) {
        for (int room = 0; room < rooms; room++) {
            text.append("\nroom ").append(room).append(':');
            for (int what = 0; what < 7; what++) {
                text.append(' ').append(store.room(room, what));
            }
            text.append(" foretold");
            for (int hours = 0; hours <= 100; hours += 10) {
                text.append(' ').append(store.foretell(room, hours));
            }
        }
    }

    private static void appendProducts(StringBuilder text, ColdStore store, int rooms) {
        int products = store.count(0);
        for (int product = 0; product < products; product++) {
            text.append("\nproduct ").append(product).append(": best ").append(store.bestRoom(product));
            text.append(" stock ").append(store.stock(product, false));
            text.append(' ').append(store.stock(product, true));
            text.append(" fresh ").append(store.freshness(product)).append(" reasons");
            for (int room = 0; room < rooms; room++) {
                text.append(' ').append(store.reason(product, room));
            }
        }
    }

    static String ofPallets(ColdStore store) {
        StringBuilder text = new StringBuilder();
        int pallets = store.count(2);
        for (int pallet = 0; pallet < pallets; pallet++) {
            text.append("\npallet ").append(pallet).append(':');
            int room = -1;
            for (int what = 0; what < 5; what++) {
                int fact = store.pallet(pallet, what);
                room = what == 3 ? fact : room;
                text.append(' ').append(fact);
            }
            if (room >= 0) {
                text.append(" lasts ").append(store.lasts(pallet));
            }
        }
        return text.toString();
    }
}
