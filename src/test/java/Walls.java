import java.util.function.Consumer;

/** Walls that more than one test begins with. */
final class Walls {
    static final Consumer<VarnishPrices> BARE = v -> { };

    /** Twelve posters of one cell each, one beside the other, of the prices and varnishes 1 to 12. */
    static final Consumer<VarnishPrices> TWELVE = v -> {
        for (int number = 0; number < 12; number++) {
            v.paste(number % 10, number / 10, 1, 1, number + 1, number + 1);
        }
    };

    /** Twelve posters over one another on the whole wall, of the prices 1 to 12 and a varnish of 1. */
    static final Consumer<VarnishPrices> PILE = v -> {
        for (int number = 0; number < 12; number++) {
            v.paste(0, 0, 10, 6, number + 1, 1);
        }
    };

    /**
     * Everything is full: twelve posters, the day 9999, six states, a pad of 60 signs (with a fault) and a slot; slot 1
     * has nothing. At (0, 0) three of the posters lie, nothing is shown from (0, 4) on to the right and below.
     */
    static final Consumer<VarnishPrices> FULL = v -> {
        lastDays(v);
        v.paste(0, 0, 3, 3, 50, 20);
        v.save(0);
        v.paste(0, 0, 1, 1, 60, 4);
        v.paste(0, 0, 2, 2, 70, 7);
        for (int number = 3; number < 12; number++) {
            v.paste(number - 2, 3, 1, 1, number, 40 + number);
        }
        v.scrape(1, 1, 7);
        v.buy(0, 0, 70);
        v.coat(0, 3);
        v.sun(4, 7);
        v.pass(1);
        Due.write(v, "00:70;11:999;20:999;30:999;40:999;50:999;60:999;70:999;80:0x");
        v.sun(9, 0);
    };

    private Walls() { }

    /** On to the day 9998. */
    static void lastDays(VarnishPrices prices) {
        for (int i = 0; i < 99; i++) {
            prices.pass(100);
        }
        prices.pass(98);
    }

    static Consumer<VarnishPrices> onePoster(int varnish) {
        return v -> v.paste(0, 0, 1, 1, 5, varnish);
    }
}
