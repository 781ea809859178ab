/** All that can be seen of a store without changing it, as a text. */
final class State {
    private State() {
    }

    static String of(ColdStore store) {
        StringBuilder text = new StringBuilder();
        text.append("now ").append(store.now()).append(" paid ").append(store.paid());
        text.append(" digest ").append(store.digest()).append(" counts");
        for (int what = 0; what < 5; what++) {
            text.append(' ').append(store.count(what));
        }
        text.append(" outside");
        for (int hour = 0; hour < 24; hour++) {
            text.append(' ').append(store.outside(hour));
        }
        appendRooms(text, store);
        appendProducts(text, store);
        appendPallets(text, store);
        return text.toString();
    }

    private static void appendRooms(StringBuilder text, ColdStore store) {
        for (int room = 0; room < store.count(1); room++) {
            text.append("\nroom ").append(room).append(':');
            for (int what = 0; what < 7; what++) {
                text.append(' ').append(store.room(room, what));
            }
            text.append(" foretold");
            for (int hours = 0; hours <= 100; hours += 10) {
                text.append(' ').append(store.foretell(room, hours));
            }
        }
    }

    private static void appendProducts(StringBuilder text, ColdStore store) {
        for (int product = 0; product < store.count(0); product++) {
            text.append("\nproduct ").append(product).append(": best ").append(store.bestRoom(product));
            text.append(" stock ").append(store.stock(product, false));
            text.append(' ').append(store.stock(product, true));
            text.append(" fresh ").append(store.freshness(product)).append(" reasons");
            for (int room = 0; room < store.count(1); room++) {
                text.append(' ').append(store.reason(product, room));
            }
        }
    }

    private static void appendPallets(StringBuilder text, ColdStore store) {
        for (int pallet = 0; pallet < store.count(2); pallet++) {
            text.append("\npallet ").append(pallet).append(':');
            for (int what = 0; what < 5; what++) {
                text.append(' ').append(store.pallet(pallet, what));
            }
            if (store.pallet(pallet, 3) >= 0) {
                text.append(" lasts ").append(store.lasts(pallet));
            }
        }
    }
}
