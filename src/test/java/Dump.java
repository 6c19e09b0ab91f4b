import java.util.function.Consumer;

/**
 * All that can be asked of an object that a setup has made, of the states that undo leads back to, and of what the
 * slots keep. As an object answers for 512 calls only, the setup is run again on a fresh one for each part.
 */
final class Dump {
    private static final int HALF = 6;

    private Dump() { }

    static VarnishPrices made(Consumer<VarnishPrices> setup) {
        VarnishPrices prices = new VarnishPrices();
        setup.accept(prices);
        return prices;
    }

    static String of(Consumer<VarnishPrices> setup) {
        StringBuilder text = new StringBuilder();
        state(setup, text);
        int past = made(setup).count(11);
        Consumer<VarnishPrices> undone = setup;
        for (int back = 1; back <= past; back++) {
            undone = undone.andThen(VarnishPrices::undo);
            text.append("undone ").append(back).append('\n');
            state(undone, text);
        }
        for (int slot = 0; slot < 2; slot++) {
            int kept = slot;
            int posters = made(setup).restore(kept);
            text.append("slot ").append(posters).append('\n');
            if (posters >= 0) {
                state(setup.andThen(v -> v.restore(kept)), text);
            }
        }
        return text.toString();
    }

    private static void state(Consumer<VarnishPrices> setup, StringBuilder text) {
        wall(made(setup), text);
        posters(made(setup), text);
        varnish(made(setup), 0, text);
        varnish(made(setup), HALF, text);
    }

    private static void wall(VarnishPrices prices, StringBuilder text) {
        numbers(prices, text);
        for (int x = 0; x < 10; x++) {
            text.append("sun ").append(prices.sunOf(x)).append('\n');
            for (int y = 0; y < 6; y++) {
                text.append("cell ").append(x).append(' ').append(y);
                for (int what = 0; what < 5; what++) {
                    text.append(' ').append(prices.cell(x, y, what));
                }
                text.append('\n');
            }
        }
    }

    private static void numbers(VarnishPrices prices, StringBuilder text) {
        text.append("numbers");
        for (int what = 0; what < 12; what++) {
            text.append(' ').append(prices.count(what));
        }
        text.append(" fault ").append(prices.fault()).append('\n');
    }

    private static void posters(VarnishPrices prices, StringBuilder text) {
        for (int poster = 0; poster < prices.count(0); poster++) {
            text.append("poster ").append(poster);
            for (int what = 0; what < 11; what++) {
                text.append(' ').append(prices.poster(poster, what));
            }
            text.append('\n');
        }
    }

    private static void varnish(VarnishPrices prices, int from, StringBuilder text) {
        int posters = prices.count(0);
        for (int poster = from; poster < from + HALF && poster < posters; poster++) {
            text.append("varnish ").append(poster);
            for (int place = 0; place < 60; place++) {
                text.append(' ').append(prices.varnish(poster, place % 10, place / 10));
            }
            text.append('\n');
        }
    }
}
