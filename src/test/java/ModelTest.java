/** Long runs of calls, by all promises mixed: the program answers as the plain model does. */
public final class ModelTest {
    private static final int RUNS = 400;
    private static final int CALLS = 512;
    private static final int[] WILD = {-1, Integer.MIN_VALUE, Integer.MAX_VALUE, 1000, -1000};

    private final Due due = new Due();
    private long seed = 1;
    private VarnishPrices real;
    private PlainModel model;
    /** How far prices and varnish go in this run: small ones bring more alike prices and clear cells. */
    private int mostPrice;
    private int mostVarnish;

    private ModelTest() { }

    public static void main(String[] args) {
        ModelTest test = new ModelTest();
        for (int run = 0; run < RUNS; run++) {
            test.run(run);
        }
        test.due.end();
    }

    private int upTo(int most) {
        seed = seed * 6364136223846793005L + 1442695040888963407L;
        return (int) ((seed >>> 33) % (most + 1));
    }

    /** A number of the range, now and then one just outside it, or a wild one. */
    private int within(int least, int most) {
        int luck = upTo(99);
        if (luck < 1) {
            return WILD[upTo(WILD.length - 1)];
        }
        if (luck < 3) {
            return upTo(1) == 0 ? least - 1 : most + 1;
        }
        return least + upTo(most - least);
    }

    private void run(int run) {
        real = new VarnishPrices();
        model = new PlainModel();
        mostPrice = run % 2 == 0 ? 4 : 999;
        mostVarnish = run % 3 == 0 ? 99 : run % 3 == 1 ? 9 : 25;
        for (int call = 0; call < CALLS; call++) {
            if (upTo(1) == 0) {
                change(run);
            } else {
                question(run);
            }
        }
    }

    private void same(int run, String call, int got, int want) {
        due.due("run " + run + ": " + call, got, want);
    }

    private void change(int run) {
        switch (upTo(15)) {
            case 0: case 1: case 2: paste(run); break;
            case 3: tear(run); break;
            case 4: coat(run); break;
            case 5: case 6: scrape(run); break;
            case 7: sun(run); break;
            case 8: buy(run); break;
            case 9: case 10: texts(run); break;
            case 11: case 12: pass(run); break;
            case 13: same(run, "undo()", real.undo(), model.undo()); break;
            case 14: save(run); break;
            default: restore(run); break;
        }
    }

    private void paste(int run) {
        int x = within(0, 6);
        int y = within(0, 4);
        int width = within(1, x >= 0 && x < 10 && upTo(3) > 0 ? Math.min(4, 10 - x) : 4);
        int height = within(1, y >= 0 && y < 6 && upTo(3) > 0 ? Math.min(3, 6 - y) : 3);
        int price = upTo(30) == 0 ? within(1, 999) : 1 + upTo(mostPrice - 1);
        int varnish = upTo(30) == 0 ? within(1, 99) : 1 + upTo(mostVarnish - 1);
        same(run, "paste(" + x + ", " + y + ", " + width + ", " + height + ", " + price + ", " + varnish + ")",
                real.paste(x, y, width, height, price, varnish), model.paste(x, y, width, height, price, varnish));
    }

    private int posterNumber() {
        return within(0, Math.max(0, model.count(0) - 1));
    }

    private void tear(int run) {
        int poster = posterNumber();
        same(run, "tear(" + poster + ")", real.tear(poster), model.tear(poster));
    }

    private void coat(int run) {
        int poster = posterNumber();
        int by = within(1, upTo(1) == 0 ? 99 : 5);
        same(run, "coat(" + poster + ", " + by + ")", real.coat(poster, by), model.coat(poster, by));
    }

    private void scrape(int run) {
        int x = within(0, 9);
        int y = within(0, 5);
        int by = within(1, upTo(1) == 0 ? 300 : 12);
        same(run, "scrape(" + x + ", " + y + ", " + by + ")", real.scrape(x, y, by), model.scrape(x, y, by));
    }

    private void sun(int run) {
        int x = within(0, 9);
        int strength = within(0, 9);
        same(run, "sun(" + x + ", " + strength + ")", real.sun(x, strength), model.sun(x, strength));
    }

    private void buy(int run) {
        int x = within(0, 9);
        int y = within(0, 5);
        int purse = upTo(1) == 0 ? within(0, 999) : upTo(mostPrice);
        same(run, "buy(" + x + ", " + y + ", " + purse + ")", real.buy(x, y, purse), model.buy(x, y, purse));
    }

    private void pass(int run) {
        int days = within(1, upTo(4) == 0 ? 100 : 4);
        same(run, "pass(" + days + ")", real.pass(days), model.pass(days));
    }

    private void save(int run) {
        int slot = within(0, 1);
        same(run, "save(" + slot + ")", real.save(slot), model.save(slot));
    }

    private void restore(int run) {
        int slot = within(0, 1);
        same(run, "restore(" + slot + ")", real.restore(slot), model.restore(slot));
    }

    /** A whole text, mostly without fault, then its fault and its buyers. */
    private void texts(int run) {
        if (upTo(3) > 0) {
            same(run, "wipe()", real.wipe(), model.wipe());
        }
        StringBuilder text = new StringBuilder();
        int buyers = 1 + upTo(8);
        for (int i = 0; i < buyers; i++) {
            text.append(i == 0 ? "" : ";").append(upTo(9)).append(upTo(5)).append(':');
            text.append(upTo(1) == 0 ? upTo(999) : upTo(mostPrice));
        }
        if (upTo(2) == 0) {
            int at = upTo(text.length() - 1);
            text.setCharAt(at, upTo(1) == 0 ? (char) (33 + upTo(93)) : "0123456789:;".charAt(upTo(11)));
        }
        int from = 0;
        while (from < text.length()) {
            int to = Math.min(text.length(), from + 1 + upTo(7));
            put(run, Due.chars(text.substring(from, to)));
            from = to;
        }
        if (upTo(5) == 0) {
            put(run, Due.chars("00:1") ^ 1L << upTo(63));
        }
        same(run, "fault()", real.fault(), model.fault());
        same(run, "buyAll()", real.buyAll(), model.buyAll());
    }

    private void put(int run, long characters) {
        same(run, "put(" + characters + ")", real.put(characters), model.put(characters));
    }

    private void question(int run) {
        int x = within(0, 9);
        int y = within(0, 5);
        int poster = posterNumber();
        switch (upTo(10)) {
            case 0: cell(run, x, y); break;
            case 1: poster(run, poster); break;
            case 2: same(run, "varnish(" + poster + ", " + x + ", " + y + ")", real.varnish(poster, x, y),
                    model.varnish(poster, x, y)); break;
            case 3: case 4: count(run); break;
            case 5: same(run, "sunOf(" + x + ")", real.sunOf(x), model.sunOf(x)); break;
            case 6: ifPassed(run); break;
            case 7: willShow(run, x, y); break;
            case 8: same(run, "nextChange()", real.nextChange(), model.nextChange()); break;
            case 9: same(run, "comesToLight(" + poster + ")", real.comesToLight(poster), model.comesToLight(poster));
                break;
            default: bestTorn(run); break;
        }
    }

    private void cell(int run, int x, int y) {
        int what = within(0, 4);
        same(run, "cell(" + x + ", " + y + ", " + what + ")", real.cell(x, y, what), model.cell(x, y, what));
    }

    private void poster(int run, int poster) {
        int what = within(0, 10);
        same(run, "poster(" + poster + ", " + what + ")", real.poster(poster, what), model.poster(poster, what));
    }

    private void count(int run) {
        int what = within(0, 11);
        same(run, "count(" + what + ")", real.count(what), model.count(what));
    }

    private void ifPassed(int run) {
        int days = within(1, upTo(1) == 0 ? 100 : 6);
        int what = within(0, 2);
        same(run, "ifPassed(" + days + ", " + what + ")", real.ifPassed(days, what), model.ifPassed(days, what));
    }

    private void willShow(int run, int x, int y) {
        int days = within(1, upTo(1) == 0 ? 200 : 12);
        same(run, "willShow(" + x + ", " + y + ", " + days + ")", real.willShow(x, y, days),
                model.willShow(x, y, days));
    }

    private void bestTorn(int run) {
        int what = within(0, 1);
        same(run, "bestTorn(" + what + ")", real.bestTorn(what), model.bestTorn(what));
    }
}
