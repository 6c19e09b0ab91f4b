import java.util.function.Consumer;

/**
 * The sentences of the promises 10 to 19 that name a boundary, one after the other, each with calls at the boundary
 * and just beyond it.
 */
public final class AnswerSentencesTest {
    private static final int MIN = Integer.MIN_VALUE;
    private static final int MAX = Integer.MAX_VALUE;
    private static final int[][] NOWHERE = {{-1, 0}, {10, 0}, {0, -1}, {0, 6}, {MIN, 0}, {MAX, 0}, {0, MIN}, {0, MAX},
        {-1, 5}, {10, 5}, {-10, 1}, {59, 0}};
    /** At (0, 0) two posters are clear and one is seen; (1, 0) is clear; (2, 0) is bare. */
    private static final Consumer<VarnishPrices> THROUGH = v -> {
        v.paste(0, 0, 2, 1, 40, 9);
        v.paste(0, 0, 1, 1, 50, 1);
        v.paste(0, 0, 1, 1, 60, 2);
        v.scrape(0, 0, 3);
        v.scrape(1, 0, 9);
    };
    private static final Consumer<VarnishPrices> DEAREST = v -> v.paste(0, 0, 10, 6, 999, 99);

    private final Due due = new Due();

    private AnswerSentencesTest() { }

    public static void main(String[] args) {
        AnswerSentencesTest test = new AnswerSentencesTest();
        test.cellKinds();
        test.cellRefused();
        test.posterKinds();
        test.posterSales();
        test.posterRefused();
        test.varnish();
        test.countWhenBare();
        test.countPostersAndDays();
        test.countPrices();
        test.countUnlikePrices();
        test.countUnseenAndClear();
        test.countSales();
        test.countPadAndChanges();
        test.countRefused();
        test.sunOf();
        test.ifPassedCleared();
        test.ifPassedPrices();
        test.ifPassedRefused();
        test.willShow();
        test.willShowRefused();
        test.nextChange();
        test.nextChangeLimit();
        test.comesToLight();
        test.comesToLightLimit();
        test.bestTorn();
        test.bestTornRefused();
        test.due.end();
    }

    private void cellIs(Consumer<VarnishPrices> setup, int x, int y, int... want) {
        VarnishPrices v = Dump.made(setup);
        for (int what = 0; what < want.length; what++) {
            due.due("cell(" + x + ", " + y + ", " + what + ")", v.cell(x, y, what), want[what]);
        }
    }

    private void cellKinds() {
        due.sentence("10: 0 the price that is shown (NONE), 1 the poster that is seen (NONE), 2 its varnish there "
                + "(0 if there is none), 3 how many posters lie there (also those whose cell there is clear), 4 how "
                + "many of these cells are not clear");
        cellIs(THROUGH, 0, 0, 40, 0, 9, 3, 1);
        cellIs(THROUGH, 1, 0, Due.NONE, Due.NONE, 0, 1, 0);
        cellIs(THROUGH, 2, 0, Due.NONE, Due.NONE, 0, 0, 0);
        cellIs(THROUGH, 0, 1, Due.NONE, Due.NONE, 0, 0, 0);
        cellIs(Walls.PILE, 9, 5, 12, 11, 1, 12, 12);
        cellIs(Walls.PILE.andThen(v -> v.pass(11)), 9, 5, 1, 0, 1, 12, 1);
        cellIs(Walls.PILE.andThen(v -> v.pass(12)), 9, 5, Due.NONE, Due.NONE, 0, 12, 0);
        cellIs(DEAREST, 0, 0, 999, 0, 99, 1, 1);
        cellIs(DEAREST, 9, 5, 999, 0, 99, 1, 1);
        cellIs(Walls.BARE, 9, 5, Due.NONE, Due.NONE, 0, 0, 0);
    }

    private void cellRefused() {
        due.sentence("10: NO_SUCH if there is no such cell; BAD_VALUE if what is out of range");
        for (int[] at : NOWHERE) {
            due.unchanged("cell at " + at[0] + " " + at[1], DEAREST, v -> v.cell(at[0], at[1], 0), Due.NO_SUCH);
            due.unchanged("cell of no kind at " + at[0], DEAREST, v -> v.cell(at[0], at[1], -1), Due.NO_SUCH);
        }
        due.range("what", 0, 4, DEAREST, (v, what) -> v.cell(9, 5, what), Due.BAD_VALUE);
        due.range("what", 0, 4, Walls.BARE, (v, what) -> v.cell(0, 0, what), Due.BAD_VALUE);
    }

    private void posterIs(Consumer<VarnishPrices> setup, int poster, int... want) {
        VarnishPrices v = Dump.made(setup);
        for (int what = 0; what < want.length; what++) {
            due.due("poster(" + poster + ", " + what + ")", v.poster(poster, what), want[what]);
        }
    }

    private void posterKinds() {
        due.sentence("11: 5 how many of its cells are seen, 6 how many are clear, 7 how many are hidden: neither "
                + "seen nor clear .. 10 all of its varnish");
        posterIs(DEAREST, 0, 0, 0, 10, 6, 999, 60, 0, 0, 0, 0, 5940);
        posterIs(DEAREST.andThen(v -> v.pass(98)), 0, 0, 0, 10, 6, 999, 60, 0, 0, 0, 0, 60);
        posterIs(DEAREST.andThen(v -> v.pass(99)), 0, 0, 0, 10, 6, 999, 0, 60, 0, 0, 0, 0);
        posterIs(Walls.PILE, 0, 0, 0, 10, 6, 1, 0, 0, 60, 0, 0, 60);
        posterIs(Walls.PILE, 11, 0, 0, 10, 6, 12, 60, 0, 0, 0, 0, 60);
        posterIs(Walls.BARE.andThen(v -> v.paste(9, 5, 1, 1, 1, 1)), 0, 9, 5, 1, 1, 1, 1, 0, 0, 0, 0, 1);
        posterIs(THROUGH, 0, 0, 0, 2, 1, 40, 1, 1, 0, 0, 0, 9);
        posterIs(THROUGH, 1, 0, 0, 1, 1, 50, 0, 1, 0, 0, 0, 0);
        // A clear cell with another poster over it is clear, not hidden.
        posterIs(THROUGH.andThen(v -> v.paste(0, 0, 2, 1, 7, 1)), 0, 0, 0, 2, 1, 40, 0, 1, 1, 0, 0, 9);
    }

    private void posterSales() {
        due.sentence("11: 8 its sales, 9 what they brought");
        VarnishPrices v = Dump.made(Walls.PILE);
        due.due("no sales at first", v.poster(11, 8), 0);
        due.due("they brought nothing", v.poster(11, 9), 0);
        v.buy(0, 0, 12);
        v.buy(9, 5, 999);
        v.pass(1);
        v.buy(0, 0, 11);
        due.due("sales at two of its cells", v.poster(11, 8), 2);
        due.due("what they brought", v.poster(11, 9), 24);
        due.due("sales of the next one", v.poster(10, 8), 1);
        due.due("what they brought", v.poster(10, 9), 11);
        due.due("sales of a hidden one", v.poster(9, 8), 0);
        v.tear(11);
        v.paste(0, 0, 1, 1, 5, 1);
        due.due("the sales of a new one", v.poster(11, 8), 0);
        due.due("what they brought", v.poster(11, 9), 0);
    }

    private void posterRefused() {
        due.sentence("11: NO_SUCH if there is no such poster; BAD_VALUE if what is out of range");
        due.unchanged("poster of a bare wall", Walls.BARE, v -> v.poster(0, 0), Due.NO_SUCH);
        due.unchanged("poster of a bare wall, of no kind", Walls.BARE, v -> v.poster(0, 11), Due.NO_SUCH);
        due.range("poster", 0, 11, Walls.PILE, (v, poster) -> v.poster(poster, 10), Due.NO_SUCH);
        due.range("poster", 0, 0, DEAREST, (v, poster) -> v.poster(poster, 0), Due.NO_SUCH);
        due.range("what", 0, 10, DEAREST, (v, what) -> v.poster(0, what), Due.BAD_VALUE);
        VarnishPrices torn = Dump.made(Walls.PILE);
        torn.tear(5);
        due.due("the highest number is free", torn.poster(11, 4), Due.NO_SUCH);
    }

    private void varnish() {
        due.sentence("12: Returns the varnish; NO_SUCH if there is no such poster or cell; NONE if the poster does "
                + "not lie there.");
        Consumer<VarnishPrices> middle = v -> {
            v.paste(3, 2, 4, 3, 5, 99);
            v.paste(3, 2, 1, 1, 5, 1);
            v.pass(1);
        };
        VarnishPrices v = Dump.made(middle);
        for (int place = 0; place < 60; place++) {
            int x = place % 10;
            int y = place / 10;
            boolean lies = x >= 3 && x <= 6 && y >= 2 && y <= 4;
            boolean wasHidden = x == 3 && y == 2;
            due.due("varnish at " + x + " " + y, v.varnish(0, x, y), !lies ? Due.NONE : wasHidden ? 99 : 98);
            due.due("of the clear one", v.varnish(1, x, y), wasHidden ? 0 : Due.NONE);
        }
        due.range("poster", 0, 1, middle, (w, poster) -> w.varnish(poster, 3, 2), Due.NO_SUCH);
        due.range("poster", 0, 1, middle, (w, poster) -> w.varnish(poster, 0, 0), Due.NO_SUCH);
        due.range("x", 0, 9, middle, (w, x) -> w.varnish(0, x, 2), Due.NO_SUCH);
        due.range("y", 0, 5, middle, (w, y) -> w.varnish(0, 3, y), Due.NO_SUCH);
        for (int[] at : NOWHERE) {
            due.unchanged("varnish at " + at[0] + " " + at[1], middle, w -> w.varnish(0, at[0], at[1]), Due.NO_SUCH);
        }
        due.unchanged("varnish of a bare wall", Walls.BARE, w -> w.varnish(0, 0, 0), Due.NO_SUCH);
        VarnishPrices whole = Dump.made(DEAREST);
        due.due("the last cell", whole.varnish(0, 9, 5), 99);
        due.due("beyond it", whole.varnish(0, 10, 5), Due.NO_SUCH);
    }

    private void countIs(Consumer<VarnishPrices> setup, int what, int want) {
        due.due("count(" + what + ")", Dump.made(setup).count(what), want);
    }

    private void countWhenBare() {
        due.sentence("13: 4 the greatest price that is shown (NONE)");
        for (int what = 0; what <= 11; what++) {
            countIs(Walls.BARE, what, what == 4 ? Due.NONE : 0);
        }
    }

    private void countPostersAndDays() {
        due.sentence("13: 0 posters, 1 the present day");
        countIs(Walls.TWELVE, 0, 12);
        countIs(Walls.PILE.andThen(v -> v.pass(100)), 0, 12);
        countIs(Walls.TWELVE.andThen(v -> v.tear(11)), 0, 11);
        countIs(Walls.onePoster(1).andThen(v -> v.tear(0)), 0, 0);
        countIs(Walls::lastDays, 1, 9998);
        countIs(Walls.FULL, 1, 9999);
    }

    private void countPrices() {
        due.sentence("13: 2 cells of the wall that show a price .. 4 the greatest price that is shown (NONE), 5 the "
                + "sum of the prices of all cells that show one");
        countIs(DEAREST, 2, 60);
        countIs(DEAREST, 4, 999);
        countIs(DEAREST, 5, 59940);
        countIs(DEAREST.andThen(v -> v.scrape(0, 0, 99)), 2, 59);
        countIs(DEAREST.andThen(v -> v.scrape(9, 5, 99)), 5, 59 * 999);
        countIs(DEAREST.andThen(v -> v.pass(99)), 2, 0);
        countIs(DEAREST.andThen(v -> v.pass(99)), 4, Due.NONE);
        countIs(DEAREST.andThen(v -> v.pass(99)), 5, 0);
        Consumer<VarnishPrices> over = DEAREST.andThen(v -> v.paste(0, 0, 10, 6, 1, 1));
        countIs(over, 2, 60);
        countIs(over, 4, 1);
        countIs(over, 5, 60);
        countIs(over.andThen(v -> v.scrape(9, 5, 1)), 4, 999);
        countIs(over.andThen(v -> v.scrape(0, 0, 1)), 4, 999);
        countIs(over.andThen(v -> v.scrape(0, 0, 1)), 5, 59 + 999);
    }

    private void countUnlikePrices() {
        due.sentence("13: 3 unlike prices that are shown");
        countIs(Walls.TWELVE, 3, 12);
        countIs(Walls.PILE, 3, 1);
        countIs(DEAREST, 3, 1);
        countIs(DEAREST.andThen(v -> v.pass(99)), 3, 0);
        countIs(DEAREST.andThen(v -> v.paste(0, 0, 1, 1, 999, 1)), 3, 1);
        countIs(DEAREST.andThen(v -> v.paste(0, 0, 1, 1, 998, 1)), 3, 2);
        countIs(DEAREST.andThen(v -> v.paste(0, 0, 10, 6, 998, 1)), 3, 1);
        countIs(v -> {
            for (int number = 0; number < 12; number++) {
                v.paste(number % 10, number / 10, 1, 1, 7, 1 + number % 3);
            }
        }, 3, 1);
        countIs(Walls.TWELVE.andThen(v -> v.scrape(5, 0, 6)), 3, 11);
        // Two of the same price, the lower one hidden by a third.
        Consumer<VarnishPrices> alike = v -> {
            v.paste(0, 0, 1, 1, 7, 5);
            v.paste(0, 0, 1, 1, 8, 5);
            v.paste(5, 5, 1, 1, 7, 5);
        };
        countIs(alike, 3, 2);
        countIs(alike.andThen(v -> v.tear(1)), 3, 1);
        countIs(alike.andThen(v -> v.scrape(5, 5, 5)), 3, 1);
    }

    private void countUnseenAndClear() {
        due.sentence("13: 6 posters of which no cell is seen, 7 posters all cells of which are clear");
        countIs(Walls.PILE, 6, 11);
        countIs(Walls.PILE, 7, 0);
        for (int days = 1; days <= 12; days++) {
            int passed = days;
            countIs(Walls.PILE.andThen(v -> v.pass(passed)), 6, days < 12 ? 11 : 12);
            countIs(Walls.PILE.andThen(v -> v.pass(passed)), 7, days);
        }
        // One cell of 60 is enough to be seen, or not to be all clear.
        countIs(Walls.PILE.andThen(v -> v.scrape(9, 5, 12)), 6, 11);
        countIs(Walls.PILE.andThen(v -> v.scrape(9, 5, 12)), 7, 0);
        countIs(Walls.PILE.andThen(v -> v.scrape(9, 5, 11)), 6, 10);
        countIs(Walls.TWELVE, 6, 0);
        Consumer<VarnishPrices> lastCell = v -> {
            v.paste(9, 4, 1, 2, 5, 2);
            v.scrape(9, 4, 2);
            v.scrape(9, 5, 1);
        };
        countIs(lastCell, 6, 0);
        countIs(lastCell, 7, 0);
        countIs(lastCell.andThen(v -> v.pass(1)), 6, 1);
        countIs(lastCell.andThen(v -> v.pass(1)), 7, 1);
    }

    private void countSales() {
        due.sentence("13: 8 all sales so far, 9 what they brought (also those of posters that were torn down)");
        VarnishPrices v = Dump.made(Walls.PILE);
        v.buy(0, 0, 12);
        v.buy(0, 0, 11);
        Due.write(v, "95:12;95:11;00:999");
        v.buyAll();
        due.due("all sales", v.count(8), 3);
        due.due("what they brought", v.count(9), 36);
        v.tear(11);
        due.due("all sales, one torn", v.count(8), 3);
        due.due("what they brought", v.count(9), 36);
        v.buy(0, 0, 11);
        for (int poster = 10; poster >= 0; poster--) {
            v.tear(poster);
        }
        due.due("all sales, all torn", v.count(8), 4);
        due.due("what they brought", v.count(9), 47);
        for (int back = 0; back < 6; back++) {
            v.undo();
        }
        due.due("all sales, some back", v.count(8), 4);
        VarnishPrices first = new VarnishPrices();
        first.paste(0, 0, 1, 1, 999, 1);
        first.buy(0, 0, 999);
        first.tear(0);
        due.due("the only one torn", first.count(8), 1);
        due.due("what it brought", first.count(9), 999);
        first.undo();
        first.undo();
        due.due("undone", first.count(8), 0);
        due.due("what it brought", first.count(9), 0);
    }

    private void countPadAndChanges() {
        due.sentence("13: 10 the length of the pad, 11 how many changes can be undone");
        VarnishPrices pad = new VarnishPrices();
        for (int length = 1; length <= 60; length++) {
            pad.put('0');
            due.due("the length of the pad", pad.count(10), length);
        }
        pad.put('0');
        due.due("of a full one", pad.count(10), 60);
        pad.wipe();
        due.due("of an empty one", pad.count(10), 0);
        VarnishPrices v = new VarnishPrices();
        for (int changes = 0; changes <= 20; changes++) {
            due.due("changes that can be undone", v.count(11), Math.min(changes, 6));
            v.sun(0, changes % 10);
        }
        for (int left = 5; left >= 0; left--) {
            v.undo();
            due.due("changes that are left", v.count(11), left);
        }
    }

    private void countRefused() {
        due.sentence("13: BAD_VALUE if what is out of range");
        due.range("what", 0, 11, Walls.BARE, VarnishPrices::count, Due.BAD_VALUE);
        due.range("what", 0, 11, Walls.FULL, VarnishPrices::count, Due.BAD_VALUE);
    }

    private void sunOf() {
        due.sentence("14: Returns the sun; NO_SUCH if there is no such column.");
        due.range("x", 0, 9, Walls.BARE, VarnishPrices::sunOf, Due.NO_SUCH);
        for (int x = 0; x < 10; x++) {
            for (int strength = 0; strength <= 9; strength++) {
                VarnishPrices v = new VarnishPrices();
                v.sun(x, strength);
                due.due("sunOf(" + x + ")", v.sunOf(x), strength);
                due.due("sunOf the next one", v.sunOf((x + 1) % 10), 1);
            }
        }
    }

    private void ifPassedCleared() {
        due.sentence("15: 0 cells of posters that would become clear in them .. days: 1 to 100");
        for (int days = 1; days <= 100; days++) {
            int within = days;
            VarnishPrices pile = Dump.made(Walls.PILE);
            due.due("a pile of twelve in " + days, pile.ifPassed(within, 0), 60 * Math.min(days, 12));
            due.due("as it would be", pile.pass(within), 60 * Math.min(days, 12));
            VarnishPrices dear = Dump.made(DEAREST);
            due.due("a varnish of 99 in " + days, dear.ifPassed(within, 0), days < 99 ? 0 : 60);
        }
        VarnishPrices v = Dump.made(THROUGH);
        due.due("what is clear does not become clear", v.ifPassed(100, 0), 1);
        due.due("a bare wall", new VarnishPrices().ifPassed(100, 0), 0);
        due.unchanged("ifPassed passes no day", Walls.PILE, w -> w.ifPassed(12, 0), 720);
    }

    private void ifPassedPrices() {
        due.sentence("15: 1 cells of the wall that would then show another price than now, or none in place of one, "
                + "2 the sum of the prices of all cells then");
        VarnishPrices pile = Dump.made(Walls.PILE);
        for (int days = 1; days <= 100; days++) {
            due.due("other prices of a pile", pile.ifPassed(days, 1), 60);
            due.due("the sum then", pile.ifPassed(days, 2), 60 * Math.max(0, 12 - days));
        }
        VarnishPrices v = new VarnishPrices();
        v.paste(0, 0, 3, 1, 8, 5);
        v.paste(1, 0, 2, 1, 9, 3);
        v.paste(2, 0, 1, 1, 8, 2);
        // The third cell shows 8, then 9, then 8 again, then none.
        int[][] rows = {{1, 0, 25}, {2, 1, 26}, {3, 2, 25}, {4, 2, 25}, {5, 2, 16}, {7, 2, 16}, {8, 2, 8}, {9, 2, 8},
            {10, 3, 0}, {100, 3, 0}};
        for (int[] row : rows) {
            due.due("other prices in " + row[0], v.ifPassed(row[0], 1), row[1]);
            due.due("the sum in " + row[0], v.ifPassed(row[0], 2), row[2]);
        }
        VarnishPrices same = new VarnishPrices();
        same.paste(0, 0, 10, 6, 8, 5);
        same.paste(0, 0, 10, 6, 8, 5);
        due.due("the same price of another poster", same.ifPassed(9, 1), 0);
        due.due("the same sum", same.ifPassed(9, 2), 480);
        due.due("none in place of one", same.ifPassed(10, 1), 60);
        due.due("no sum", same.ifPassed(10, 2), 0);
        due.due("none now, none then", Dump.made(THROUGH).ifPassed(8, 1), 0);
        due.due("a bare wall", new VarnishPrices().ifPassed(100, 1), 0);
        due.due("its sum", new VarnishPrices().ifPassed(100, 2), 0);
        due.due("the greatest sum", Dump.made(DEAREST).ifPassed(98, 2), 59940);
    }

    private void ifPassedRefused() {
        due.sentence("15: BAD_VALUE if an argument is out of range .. days: 1 to 100");
        for (int what = 0; what <= 2; what++) {
            int kind = what;
            due.range("days", 1, 100, DEAREST, (v, days) -> v.ifPassed(days, kind), Due.BAD_VALUE);
        }
        for (int days : new int[] {1, 100}) {
            due.range("what", 0, 2, DEAREST, (v, what) -> v.ifPassed(days, what), Due.BAD_VALUE);
        }
        due.unchanged("both", Walls.BARE, v -> v.ifPassed(0, -1), Due.BAD_VALUE);
    }

    private void willShow() {
        due.sentence("16: Tells what a cell would show behind some days .. Returns the price (NONE) .. days: 1 to "
                + "200");
        VarnishPrices v = new VarnishPrices();
        v.paste(9, 5, 1, 1, 7, 2);
        v.paste(9, 5, 1, 1, 8, 99);
        v.paste(9, 5, 1, 1, 9, 99);
        for (int days = 1; days <= 200; days++) {
            due.due("behind " + days, v.willShow(9, 5, days),
                    days < 99 ? 9 : days < 198 ? 8 : days < 200 ? 7 : Due.NONE);
            due.due("beside it", v.willShow(8, 5, days), Due.NONE);
        }
        v.coat(2, 1);
        v.sun(9, 9);
        for (int days = 1; days <= 30; days++) {
            due.due("behind " + days + " of the strongest sun", v.willShow(9, 5, days),
                    days < 11 ? 9 : days < 22 ? 8 : days < 23 ? 7 : Due.NONE);
        }
        v.sun(9, 0);
        due.due("without a sun", v.willShow(9, 5, 200), 9);
        VarnishPrices three = new VarnishPrices();
        for (int price = 1; price <= 3; price++) {
            three.paste(0, 0, 1, 1, price, 99);
        }
        due.due("one of three is left", three.willShow(0, 0, 200), 1);
        due.due("it passes no day", three.count(1), 0);
    }

    private void willShowRefused() {
        due.sentence("16: NO_SUCH if there is no such cell; BAD_VALUE if days is out of range");
        for (int[] at : NOWHERE) {
            due.unchanged("willShow at " + at[0] + " " + at[1], DEAREST, v -> v.willShow(at[0], at[1], 1), Due.NO_SUCH);
            due.unchanged("willShow at once at " + at[0], DEAREST, v -> v.willShow(at[0], at[1], 0), Due.NO_SUCH);
        }
        due.range("days", 1, 200, DEAREST, (v, days) -> v.willShow(0, 0, days), Due.BAD_VALUE);
        due.range("days", 1, 200, Walls.BARE, (v, days) -> v.willShow(9, 5, days), Due.BAD_VALUE);
    }

    /** As many posters of one cell and one price as it takes until all of them are clear behind so many days. */
    private static Consumer<VarnishPrices> lasts(int x, int y, int days) {
        return v -> {
            int left = days;
            while (left > 0) {
                v.paste(x, y, 1, 1, 8, Math.min(99, left));
                left -= Math.min(99, left);
            }
        };
    }

    private void nextChange() {
        due.sentence("17: Tells how many days pass until any cell of the wall shows another price than now, or none.");
        due.due("a varnish of 1", Dump.made(Walls.onePoster(1)).nextChange(), 1);
        due.due("a varnish of 99", Dump.made(DEAREST).nextChange(), 99);
        due.due("one of 60 cells", Dump.made(DEAREST.andThen(v -> v.scrape(9, 5, 90))).nextChange(), 9);
        due.due("the first of 60 cells", Dump.made(DEAREST.andThen(v -> v.scrape(0, 0, 98))).nextChange(), 1);
        due.due("all cells of the same price", Dump.made(lasts(3, 3, 250)).nextChange(), 250);
        due.due("another price below", Dump.made(Walls.PILE).nextChange(), 1);
        due.due("other prices elsewhere", Dump.made(Walls.TWELVE.andThen(v -> v.scrape(0, 0, 1))).nextChange(), 2);
        due.due("another price, clear, over it", Dump.made(THROUGH).nextChange(), 9);
        VarnishPrices v = new VarnishPrices();
        v.paste(4, 4, 1, 1, 5, 9);
        v.paste(4, 4, 1, 1, 6, 9);
        v.paste(4, 4, 1, 1, 6, 10);
        due.due("another price below two alike", v.nextChange(), 19);
        v.sun(4, 9);
        due.due("a last day is a whole one", v.nextChange(), 3);
        v.pass(2);
        due.due("two days later", v.nextChange(), 1);
    }

    private void nextChangeLimit() {
        due.sentence("17: NONE if none does within 300 days");
        int[] limits = {1, 2, 99, 100, 198, 199, 297, 298, 299, 300};
        for (int days : limits) {
            due.due("none shown behind " + days, Dump.made(lasts(0, 0, days)).nextChange(), days);
        }
        for (int days : new int[] {301, 302, 396, 400, 1188}) {
            due.due("none shown behind " + days, Dump.made(lasts(9, 5, days)).nextChange(), Due.NONE);
        }
        Consumer<VarnishPrices> below = v -> v.paste(9, 5, 1, 1, 3, 1);
        due.due("another price behind 300", Dump.made(below.andThen(lasts(9, 5, 300))).nextChange(), 300);
        due.due("another price behind 301", Dump.made(below.andThen(lasts(9, 5, 301))).nextChange(), Due.NONE);
        due.due("the sooner one", Dump.made(lasts(0, 0, 301).andThen(lasts(9, 5, 300))).nextChange(), 300);
        due.due("a bare wall", new VarnishPrices().nextChange(), Due.NONE);
        due.due("a clear poster", Dump.made(Walls.onePoster(1).andThen(v -> v.pass(1))).nextChange(), Due.NONE);
        due.due("without a sun", Dump.made(Walls.onePoster(1).andThen(v -> v.sun(0, 0))).nextChange(), Due.NONE);
        due.due("a sun elsewhere", Dump.made(Walls.onePoster(1).andThen(v -> v.sun(1, 0))).nextChange(), 1);
    }

    private void comesToLight() {
        due.sentence("18: Returns how many, 0 if one is seen now; NO_SUCH if there is no such poster");
        VarnishPrices pile = Dump.made(Walls.PILE);
        for (int poster = 0; poster < 12; poster++) {
            due.due("poster " + poster + " of a pile", pile.comesToLight(poster), 11 - poster);
        }
        due.range("poster", 0, 11, Walls.PILE, VarnishPrices::comesToLight, Due.NO_SUCH);
        due.unchanged("of a bare wall", Walls.BARE, v -> v.comesToLight(0), Due.NO_SUCH);
        due.due("the first cell alone", Dump.made(Walls.onePoster(1).andThen(lasts(0, 0, 7))).comesToLight(0), 7);
        VarnishPrices corner = new VarnishPrices();
        corner.paste(0, 0, 10, 6, 5, 9);
        corner.paste(0, 0, 10, 6, 6, 9);
        corner.scrape(9, 5, 8);
        due.due("by its last cell", corner.comesToLight(0), 1);
        corner.scrape(9, 5, 1);
        due.due("its last cell is seen", corner.comesToLight(0), 0);
        corner.scrape(9, 5, 9);
        due.due("its last cell is clear", corner.comesToLight(0), 9);
        corner.sun(4, 4);
        due.due("by another sun", corner.comesToLight(0), 3);
        corner.tear(1);
        due.due("nothing is over it", corner.comesToLight(0), 0);
    }

    private void comesToLightLimit() {
        due.sentence("18: NONE if none is within 300 days");
        Consumer<VarnishPrices> hidden = v -> v.paste(6, 3, 1, 1, 3, 50);
        for (int days : new int[] {1, 2, 99, 100, 200, 299, 300}) {
            due.due("behind " + days, Dump.made(hidden.andThen(lasts(6, 3, days))).comesToLight(0), days);
        }
        for (int days : new int[] {301, 302, 400, 1089}) {
            due.due("behind " + days, Dump.made(hidden.andThen(lasts(6, 3, days))).comesToLight(0), Due.NONE);
        }
        VarnishPrices clear = Dump.made(Walls.onePoster(1).andThen(v -> v.pass(1)));
        due.due("all its cells are clear", clear.comesToLight(0), Due.NONE);
        clear.paste(0, 0, 1, 1, 3, 1);
        due.due("one is over it", clear.comesToLight(0), Due.NONE);
        VarnishPrices dark = Dump.made(hidden.andThen(lasts(6, 3, 1)));
        dark.sun(6, 0);
        due.due("behind one, without a sun", dark.comesToLight(0), Due.NONE);
        dark.scrape(6, 3, 1);
        due.due("behind a clear one, without a sun", dark.comesToLight(0), 0);
        dark.undo();
        due.due("behind one again", dark.comesToLight(0), Due.NONE);
        due.due("the upper one is seen without a sun", dark.comesToLight(1), 0);
    }

    private void torn(Consumer<VarnishPrices> setup, int poster, int sum) {
        VarnishPrices v = Dump.made(setup);
        due.due("bestTorn(0)", v.bestTorn(0), poster);
        due.due("bestTorn(1)", v.bestTorn(1), sum);
    }

    private void bestTorn() {
        due.sentence("19: Finds the poster without which the sum of the prices of all cells would be the greatest; "
                + "of several the lowest one.");
        torn(Walls.onePoster(1), 0, 0);
        torn(DEAREST.andThen(v -> v.paste(0, 0, 10, 6, 1, 1)), 1, 59940);
        torn(DEAREST.andThen(DEAREST), 0, 59940);
        torn(Walls.TWELVE, 0, 77);
        torn(Walls.PILE, 0, 720);
        torn(Walls.PILE.andThen(v -> v.pass(12)), 0, 0);
        torn(THROUGH, 1, 40);
        torn(v -> {
            for (int number = 0; number < 12; number++) {
                v.paste(number % 10, number / 10, 1, 1, 12 - number, 1);
            }
        }, 11, 77);
        torn(v -> {
            v.paste(0, 0, 1, 1, 9, 1);
            v.paste(1, 0, 1, 1, 4, 1);
            v.paste(2, 0, 1, 1, 4, 1);
            v.paste(3, 0, 1, 1, 5, 1);
        }, 1, 18);
        VarnishPrices v = Dump.made(Walls.PILE);
        v.bestTorn(0);
        due.due("none is torn by it", v.count(0), 12);
    }

    private void bestTornRefused() {
        due.sentence("19: BAD_VALUE if what is neither 0 nor 1; NONE if there are no posters");
        due.range("what", 0, 1, Walls.BARE, VarnishPrices::bestTorn, Due.BAD_VALUE);
        due.range("what", 0, 1, Walls.PILE, VarnishPrices::bestTorn, Due.BAD_VALUE);
        torn(Walls.BARE, Due.NONE, Due.NONE);
        torn(Walls.onePoster(1).andThen(v -> v.tear(0)), Due.NONE, Due.NONE);
        torn(Walls.onePoster(1).andThen(v -> v.pass(1)), 0, 0);
    }
}
