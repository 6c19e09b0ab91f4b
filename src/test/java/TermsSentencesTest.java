import java.util.function.Consumer;
import java.util.function.ToLongFunction;

/**
 * The sentences of the document's 'Terms' that name a boundary, one after the other, each with calls at the boundary
 * and just beyond it.
 */
public final class TermsSentencesTest {
    private static final int WILDEST = Integer.MAX_VALUE;

    private final Due due = new Due();

    private TermsSentencesTest() { }

    public static void main(String[] args) {
        TermsSentencesTest test = new TermsSentencesTest();
        test.errorCodes();
        test.firstErrorOfChanges();
        test.firstErrorOfQuestions();
        test.errorChangesNothing();
        test.questionChangesNothing();
        test.noneIsNoError();
        test.numberedFromZero();
        test.columnsAndRows();
        test.suns();
        test.twelvePosters();
        test.movedDown();
        test.rectangles();
        test.priceAndVarnish();
        test.clearCells();
        test.seenCells();
        test.shownPrices();
        test.firstDay();
        test.dayBegins();
        test.dayTakes();
        test.nextDay();
        test.purses();
        test.padOfSixty();
        test.grammar();
        test.leadingZeros();
        test.firstThatCannotStand();
        test.endsTooEarly();
        test.lastOfTheCalls();
        test.due.end();
    }

    private void errorCodes() {
        due.sentence("NO_SUCH (-1), BAD_VALUE (-2), BAD_TEXT (-3), TOO_MANY (-4) and NOT_POSSIBLE (-5) .. NONE (-6)");
        due.due("NO_SUCH", VarnishPrices.NO_SUCH, -1);
        due.due("BAD_VALUE", VarnishPrices.BAD_VALUE, -2);
        due.due("BAD_TEXT", VarnishPrices.BAD_TEXT, -3);
        due.due("TOO_MANY", VarnishPrices.TOO_MANY, -4);
        due.due("NOT_POSSIBLE", VarnishPrices.NOT_POSSIBLE, -5);
        due.due("NONE", VarnishPrices.NONE, -6);
    }

    private void first(String call, ToLongFunction<VarnishPrices> asked, int want) {
        due.due(call, asked.applyAsLong(Dump.made(Walls.FULL)), want);
    }

    private void firstErrorOfChanges() {
        due.sentence("it names its errors in the order in which they are checked, and the first one that applies is "
                + "returned");
        first("paste off the wall, bad, and there are 12", v -> v.paste(10, 0, 1, 1, 0, 0), Due.NO_SUCH);
        first("paste off the wall, and there are 12", v -> v.paste(0, 0, 0, 1, 1, 1), Due.NO_SUCH);
        first("paste off the wall, bad price", v -> v.paste(0, 0, 1, 7, 1000, 1), Due.NO_SUCH);
        first("paste bad, and there are 12", v -> v.paste(0, 0, 1, 1, 1, 100), Due.BAD_VALUE);
        first("paste, there are 12", v -> v.paste(0, 0, 1, 1, 1, 1), Due.TOO_MANY);
        first("coat of none by none", v -> v.coat(12, 0), Due.NO_SUCH);
        first("coat by none", v -> v.coat(0, 0), Due.BAD_VALUE);
        first("scrape nowhere by none", v -> v.scrape(10, 5, 0), Due.NO_SUCH);
        first("scrape nothing by none", v -> v.scrape(9, 5, 0), Due.BAD_VALUE);
        first("scrape nothing", v -> v.scrape(9, 5, 1), Due.NOT_POSSIBLE);
        first("sun nowhere too strong", v -> v.sun(10, 10), Due.NO_SUCH);
        first("sun too strong", v -> v.sun(9, 10), Due.BAD_VALUE);
        first("buy nowhere, bad purse", v -> v.buy(0, 6, 1000), Due.NO_SUCH);
        first("buy nothing, bad purse", v -> v.buy(9, 5, 1000), Due.BAD_VALUE);
        first("buy nothing", v -> v.buy(9, 5, 999), Due.NOT_POSSIBLE);
        first("pass too long, and the days end", v -> v.pass(101), Due.BAD_VALUE);
        first("pass, the days end", v -> v.pass(100), Due.TOO_MANY);
        first("put nothing on a full pad", v -> v.put(0), Due.BAD_VALUE);
        first("put a bad sign on a full pad", v -> v.put(32), Due.BAD_VALUE);
        first("put on a full pad", v -> v.put('0'), Due.TOO_MANY);
        first("restore no slot", v -> v.restore(2), Due.BAD_VALUE);
        first("restore nothing", v -> v.restore(1), Due.NOT_POSSIBLE);
    }

    private void firstErrorOfQuestions() {
        first("cell nowhere of no kind", v -> v.cell(-1, 0, 5), Due.NO_SUCH);
        first("cell of no kind", v -> v.cell(9, 5, 5), Due.BAD_VALUE);
        first("poster none of no kind", v -> v.poster(12, 11), Due.NO_SUCH);
        first("poster of no kind", v -> v.poster(11, 11), Due.BAD_VALUE);
        first("varnish of none nowhere", v -> v.varnish(12, 10, 0), Due.NO_SUCH);
        first("varnish of none where none lies", v -> v.varnish(12, 9, 5), Due.NO_SUCH);
        first("varnish nowhere, of one that does not lie there", v -> v.varnish(0, 0, 6), Due.NO_SUCH);
        first("ifPassed both bad", v -> v.ifPassed(0, 3), Due.BAD_VALUE);
        first("willShow nowhere for too long", v -> v.willShow(0, 6, 201), Due.NO_SUCH);
        first("willShow for too long", v -> v.willShow(9, 5, 201), Due.BAD_VALUE);
        first("bestTorn of no kind", v -> v.bestTorn(2), Due.BAD_VALUE);
    }

    private void nothing(String call, ToLongFunction<VarnishPrices> asked, int want) {
        due.unchanged(call + ", all is full", Walls.FULL, asked, want);
    }

    private void errorChangesNothing() {
        due.sentence("A call that returns an error changes nothing.");
        nothing("paste off the wall", v -> v.paste(9, 5, 2, 1, 1, 1), Due.NO_SUCH);
        nothing("paste bad", v -> v.paste(0, 0, 1, 1, 0, 1), Due.BAD_VALUE);
        nothing("paste a thirteenth", v -> v.paste(0, 0, 1, 1, 1, 1), Due.TOO_MANY);
        nothing("tear none", v -> v.tear(12), Due.NO_SUCH);
        nothing("coat none", v -> v.coat(12, 1), Due.NO_SUCH);
        nothing("coat too much", v -> v.coat(0, 100), Due.BAD_VALUE);
        nothing("scrape nowhere", v -> v.scrape(0, 6, 1), Due.NO_SUCH);
        nothing("scrape too much", v -> v.scrape(0, 0, 301), Due.BAD_VALUE);
        nothing("scrape nothing", v -> v.scrape(9, 5, 1), Due.NOT_POSSIBLE);
        nothing("sun nowhere", v -> v.sun(10, 1), Due.NO_SUCH);
        nothing("sun too strong", v -> v.sun(0, 10), Due.BAD_VALUE);
        nothing("buy nowhere", v -> v.buy(10, 0, 1), Due.NO_SUCH);
        nothing("buy, bad purse", v -> v.buy(0, 0, 1000), Due.BAD_VALUE);
        nothing("buy, a purse below the price", v -> v.buy(0, 0, 69), Due.NOT_POSSIBLE);
        nothing("buy nothing", v -> v.buy(9, 5, 999), Due.NOT_POSSIBLE);
        nothing("buyAll, a fault", VarnishPrices::buyAll, Due.BAD_TEXT);
        nothing("pass too long", v -> v.pass(101), Due.BAD_VALUE);
        nothing("pass beyond the last day", v -> v.pass(1), Due.TOO_MANY);
        nothing("cell nowhere", v -> v.cell(10, 0, 0), Due.NO_SUCH);
        nothing("cell of no kind", v -> v.cell(0, 0, 5), Due.BAD_VALUE);
        nothing("poster none", v -> v.poster(12, 0), Due.NO_SUCH);
        nothing("poster of no kind", v -> v.poster(0, 11), Due.BAD_VALUE);
        nothing("varnish of none", v -> v.varnish(12, 0, 0), Due.NO_SUCH);
        nothing("count of no kind", v -> v.count(12), Due.BAD_VALUE);
        nothing("sunOf nowhere", v -> v.sunOf(10), Due.NO_SUCH);
        nothing("ifPassed too long", v -> v.ifPassed(101, 0), Due.BAD_VALUE);
        nothing("willShow nowhere", v -> v.willShow(10, 0, 1), Due.NO_SUCH);
        nothing("willShow too long", v -> v.willShow(0, 0, 201), Due.BAD_VALUE);
        nothing("comesToLight of none", v -> v.comesToLight(12), Due.NO_SUCH);
        nothing("bestTorn of no kind", v -> v.bestTorn(2), Due.BAD_VALUE);
        nothing("put nothing", v -> v.put(0), Due.BAD_VALUE);
        nothing("put one too many", v -> v.put('0'), Due.TOO_MANY);
        nothing("save in no slot", v -> v.save(2), Due.BAD_VALUE);
        nothing("restore no slot", v -> v.restore(2), Due.BAD_VALUE);
        nothing("restore nothing", v -> v.restore(1), Due.NOT_POSSIBLE);
        due.unchanged("undo of nothing", v -> {
            Due.write(v, "00:1");
            v.save(0);
        }, VarnishPrices::undo, Due.NOT_POSSIBLE);
    }

    private void questionChangesNothing() {
        due.sentence("what there is; nothing changes");
        nothing("cell of nothing", v -> v.cell(9, 5, 0), Due.NONE);
        nothing("cell", v -> v.cell(0, 0, 3), 3);
        nothing("poster", v -> v.poster(0, 4), 50);
        nothing("varnish where it does not lie", v -> v.varnish(0, 9, 5), Due.NONE);
        nothing("count", v -> v.count(0), 12);
        nothing("sunOf", v -> v.sunOf(4), 7);
        due.sentence("what if; nothing changes");
        nothing("ifPassed", v -> v.ifPassed(100, 1), 17);
        nothing("willShow", v -> v.willShow(0, 0, 200), Due.NONE);
        nothing("nextChange", VarnishPrices::nextChange, 6);
        nothing("comesToLight of one that is seen", v -> v.comesToLight(0), 0);
        nothing("comesToLight of a hidden one", v -> v.comesToLight(1), 6);
        nothing("bestTorn", v -> v.bestTorn(1), 573);
    }

    private void bare(String call, ToLongFunction<VarnishPrices> asked, int want) {
        due.due(call + " of a bare wall", asked.applyAsLong(new VarnishPrices()), want);
    }

    private void noneIsNoError() {
        due.sentence("NONE (-6) is not an error; it is returned only if no error applies.");
        bare("cell(0, 0, 0)", v -> v.cell(0, 0, 0), Due.NONE);
        bare("cell(10, 0, 0)", v -> v.cell(10, 0, 0), Due.NO_SUCH);
        bare("cell(0, 0, 5)", v -> v.cell(0, 0, 5), Due.BAD_VALUE);
        bare("count(4)", v -> v.count(4), Due.NONE);
        bare("willShow(0, 0, 200)", v -> v.willShow(0, 0, 200), Due.NONE);
        bare("willShow(0, 6, 200)", v -> v.willShow(0, 6, 200), Due.NO_SUCH);
        bare("willShow(0, 0, 201)", v -> v.willShow(0, 0, 201), Due.BAD_VALUE);
        bare("nextChange()", VarnishPrices::nextChange, Due.NONE);
        bare("comesToLight(0)", v -> v.comesToLight(0), Due.NO_SUCH);
        bare("bestTorn(0)", v -> v.bestTorn(0), Due.NONE);
        bare("bestTorn(1)", v -> v.bestTorn(1), Due.NONE);
        bare("bestTorn(2)", v -> v.bestTorn(2), Due.BAD_VALUE);
        bare("bestTorn(-1)", v -> v.bestTorn(-1), Due.BAD_VALUE);
        VarnishPrices v = Dump.made(Walls.onePoster(3));
        due.due("varnish where it does not lie", v.varnish(0, 1, 0), Due.NONE);
        due.due("varnish nowhere", v.varnish(0, 10, 0), Due.NO_SUCH);
        due.due("varnish of none", v.varnish(1, 1, 0), Due.NO_SUCH);
        v.put(Due.chars("00:5"));
        due.due("fault of a whole text", v.fault(), Due.NONE);
        v.pass(3);
        due.due("comesToLight of a clear one", v.comesToLight(0), Due.NONE);
        // A NONE is no error, so a change that brings one is a change none the less.
        due.due("changes", v.count(11), 2);
    }

    private void numberedFromZero() {
        due.sentence("Everything is numbered from 0.");
        VarnishPrices v = new VarnishPrices();
        due.due("the first poster", v.paste(0, 0, 1, 1, 7, 3), 0);
        due.due("the first column and row", v.cell(0, 0, 0), 7);
        due.due("the first poster is seen", v.cell(0, 0, 1), 0);
        due.due("the second one", v.paste(9, 5, 1, 1, 8, 3), 1);
        due.due("the last column and row", v.cell(9, 5, 0), 8);
        due.due("the first day", v.count(1), 0);
        due.due("the first sun", v.sunOf(0), 1);
        due.due("the first slot", v.save(0), 2);
        due.due("the second slot", v.save(1), 2);
        due.due("there is no third slot", v.save(2), Due.BAD_VALUE);
        v.put(':');
        due.due("the first character", v.fault(), 0);
        due.due("no poster is numbered below", v.poster(-1, 0), Due.NO_SUCH);
    }

    private void columnsAndRows() {
        due.sentence("The wall has 10 columns and 6 rows of cells; x is 0 to 9, y 0 to 5.");
        Consumer<VarnishPrices> whole = v -> v.paste(0, 0, 10, 6, 5, 5);
        due.due("all its cells", Dump.made(whole).count(2), 60);
        due.range("x of scrape", 0, 9, whole, (v, x) -> v.scrape(x, 5, 1), Due.NO_SUCH);
        due.range("y of scrape", 0, 5, whole, (v, y) -> v.scrape(9, y, 1), Due.NO_SUCH);
        due.range("x of sun", 0, 9, whole, (v, x) -> v.sun(x, 1), Due.NO_SUCH);
        due.range("x of buy", 0, 9, whole, (v, x) -> v.buy(x, 5, 5), Due.NO_SUCH);
        due.range("y of buy", 0, 5, whole, (v, y) -> v.buy(9, y, 5), Due.NO_SUCH);
        due.range("x of cell", 0, 9, whole, (v, x) -> v.cell(x, 5, 0), Due.NO_SUCH);
        due.range("y of cell", 0, 5, whole, (v, y) -> v.cell(9, y, 0), Due.NO_SUCH);
        due.range("x of varnish", 0, 9, whole, (v, x) -> v.varnish(0, x, 5), Due.NO_SUCH);
        due.range("y of varnish", 0, 5, whole, (v, y) -> v.varnish(0, 9, y), Due.NO_SUCH);
        due.range("x of sunOf", 0, 9, whole, (v, x) -> v.sunOf(x), Due.NO_SUCH);
        due.range("x of willShow", 0, 9, whole, (v, x) -> v.willShow(x, 5, 1), Due.NO_SUCH);
        due.range("y of willShow", 0, 5, whole, (v, y) -> v.willShow(9, y, 1), Due.NO_SUCH);
    }

    private void suns() {
        due.sentence("Each column has a sun, 0 to 9 (1 at first).");
        VarnishPrices v = new VarnishPrices();
        for (int x = 0; x < 10; x++) {
            due.due("sunOf(" + x + ") at first", v.sunOf(x), 1);
        }
        due.due("the strongest", v.sun(0, 9), 1);
        due.due("none", v.sun(9, 0), 1);
        due.due("above", v.sun(0, 10), Due.BAD_VALUE);
        due.due("below", v.sun(9, -1), Due.BAD_VALUE);
        for (int x = 0; x < 10; x++) {
            due.due("sunOf(" + x + ") then", v.sunOf(x), x == 0 ? 9 : x == 9 ? 0 : 1);
        }
    }

    private void twelvePosters() {
        due.sentence("There are up to 12 posters, numbered from the lowest one up");
        VarnishPrices v = new VarnishPrices();
        for (int number = 0; number < 12; number++) {
            due.due("there is no poster " + number + " yet", v.poster(number, 4), Due.NO_SUCH);
            due.due("the next one", v.paste(0, 0, 2, 2, 100 + number, 5), number);
            due.due("it is the highest", v.cell(1, 1, 1), number);
        }
        due.due("a thirteenth", v.paste(0, 0, 2, 2, 112, 5), Due.TOO_MANY);
        due.due("posters", v.count(0), 12);
        for (int number = 0; number < 12; number++) {
            due.due("the price of " + number, v.poster(number, 4), 100 + number);
        }
        due.due("there is no poster 12", v.poster(12, 4), Due.NO_SUCH);
    }

    private void movedDown() {
        due.sentence("(when one is torn down, those above it move down)");
        for (int torn = 0; torn < 12; torn++) {
            VarnishPrices v = Dump.made(Walls.TWELVE);
            v.buy(torn % 10, torn / 10, 999);
            if (torn < 11) {
                v.buy((torn + 1) % 10, (torn + 1) / 10, 999);
            }
            due.due("tear " + torn, v.tear(torn), 1);
            due.due("posters then", v.count(0), 11);
            for (int number = 0; number < 11; number++) {
                int was = number < torn ? number : number + 1;
                due.due("its price", v.poster(number, 4), was + 1);
                due.due("its x", v.poster(number, 0), was % 10);
                due.due("its varnish", v.poster(number, 10), was + 1);
                due.due("its sales", v.poster(number, 8), was == torn + 1 ? 1 : 0);
            }
            due.due("there is no poster 11", v.poster(11, 4), Due.NO_SUCH);
        }
    }

    private void rectangles() {
        due.sentence("A poster is a rectangle of cells: a least x and y, a width and a height, all of it on the wall");
        int[][] rectangles = {{0, 0, 1, 1}, {9, 5, 1, 1}, {0, 0, 10, 6}, {9, 0, 1, 6}, {0, 5, 10, 1}, {3, 2, 4, 3}};
        for (int[] at : rectangles) {
            VarnishPrices v = new VarnishPrices();
            due.due("paste", v.paste(at[0], at[1], at[2], at[3], 5, 5), 0);
            for (int what = 0; what < 4; what++) {
                due.due("poster(0, " + what + ")", v.poster(0, what), at[what]);
            }
            for (int place = 0; place < 60; place++) {
                int x = place % 10;
                int y = place / 10;
                boolean lies = x >= at[0] && x < at[0] + at[2] && y >= at[1] && y < at[1] + at[3];
                due.due("posters at " + x + " " + y, v.cell(x, y, 3), lies ? 1 : 0);
            }
            due.due("one to the right of the wall", v.paste(at[0] + 1, at[1], 10 - at[0], 1, 5, 5), Due.NO_SUCH);
            due.due("one below the wall", v.paste(at[0], at[1] + 1, 1, 6 - at[1], 5, 5), Due.NO_SUCH);
        }
    }

    private void priceAndVarnish() {
        due.sentence("it has a price (1 to 999) and a varnish (1 to 99), which each of its cells has at first");
        VarnishPrices v = new VarnishPrices();
        due.due("the least of both", v.paste(0, 0, 10, 6, 1, 1), 0);
        due.due("the most of both", v.paste(0, 0, 10, 6, 999, 99), 1);
        for (int place = 0; place < 60; place++) {
            due.due("a varnish of 1", v.varnish(0, place % 10, place / 10), 1);
            due.due("a varnish of 99", v.varnish(1, place % 10, place / 10), 99);
        }
        due.due("a price of 1", v.poster(0, 4), 1);
        due.due("a price of 999", v.poster(1, 4), 999);
        due.due("a price of 0", v.paste(0, 0, 1, 1, 0, 1), Due.BAD_VALUE);
        due.due("a price of 1000", v.paste(0, 0, 1, 1, 1000, 1), Due.BAD_VALUE);
        due.due("a varnish of 0", v.paste(0, 0, 1, 1, 1, 0), Due.BAD_VALUE);
        due.due("a varnish of 100", v.paste(0, 0, 1, 1, 1, 100), Due.BAD_VALUE);
    }

    private void clearCells() {
        due.sentence("A cell of a poster is clear if its varnish is 0");
        VarnishPrices v = new VarnishPrices();
        v.paste(0, 0, 2, 1, 5, 2);
        v.scrape(0, 0, 1);
        due.due("a varnish of 1 is not clear", v.poster(0, 6), 0);
        due.due("it is seen", v.cell(0, 0, 1), 0);
        v.scrape(0, 0, 1);
        due.due("a varnish of 0 is clear", v.poster(0, 6), 1);
        due.due("it is not seen", v.cell(0, 0, 1), Due.NONE);
        due.due("nor hidden", v.poster(0, 7), 0);
        v.scrape(1, 0, 2);
        due.due("all are clear", v.poster(0, 6), 2);
    }

    private void seenCells() {
        due.sentence("otherwise it is seen, if no cell of a higher poster at the same place is not clear");
        VarnishPrices v = new VarnishPrices();
        v.paste(0, 0, 2, 1, 5, 50);
        v.paste(1, 0, 2, 1, 6, 2);
        v.paste(1, 0, 1, 1, 7, 2);
        due.due("a higher one beside it", v.cell(0, 0, 1), 0);
        due.due("two higher ones", v.cell(1, 0, 1), 2);
        v.scrape(1, 0, 2);
        due.due("the highest is clear, the next one not", v.cell(1, 0, 1), 1);
        v.scrape(1, 0, 1);
        due.due("the next one has a varnish of 1", v.cell(1, 0, 1), 1);
        v.scrape(1, 0, 1);
        due.due("both higher ones are clear", v.cell(1, 0, 1), 0);
        v.paste(0, 0, 1, 1, 8, 1);
        due.due("a varnish of 1 hides one of 50", v.cell(0, 0, 1), 3);
        VarnishPrices gap = new VarnishPrices();
        gap.paste(0, 0, 2, 1, 5, 9);
        gap.paste(0, 0, 1, 1, 6, 3);
        gap.scrape(0, 0, 3);
        gap.paste(0, 0, 1, 1, 7, 4);
        due.due("a clear one lies between", gap.cell(0, 0, 1), 2);
        gap.scrape(0, 0, 4);
        due.due("two clear ones lie above", gap.cell(0, 0, 1), 0);
    }

    private void shownPrices() {
        due.sentence("A cell of the wall shows the price of the poster whose cell is seen there; none, if there is "
                + "no such poster.");
        VarnishPrices v = new VarnishPrices();
        due.due("no poster at all", v.cell(5, 5, 0), Due.NONE);
        v.paste(5, 5, 1, 1, 999, 1);
        due.due("one is seen", v.cell(5, 5, 0), 999);
        due.due("none lies to the left", v.cell(4, 5, 0), Due.NONE);
        due.due("none lies above", v.cell(5, 4, 0), Due.NONE);
        v.paste(5, 5, 1, 1, 1, 1);
        due.due("the higher one is seen", v.cell(5, 5, 0), 1);
        v.pass(1);
        due.due("the lower one is seen", v.cell(5, 5, 0), 999);
        v.pass(1);
        due.due("both are clear", v.cell(5, 5, 0), Due.NONE);
    }

    private void firstDay() {
        due.sentence("The days are numbered from 0; the present one is 0 at first.");
        VarnishPrices v = new VarnishPrices();
        due.due("the present day", v.count(1), 0);
        v.pass(1);
        due.due("the next one", v.count(1), 1);
    }

    private void dayBegins() {
        due.sentence("When a day passes, at each cell of the wall the cell of a poster that is seen there (as it is "
                + "at the beginning of the day) loses varnish");
        VarnishPrices v = new VarnishPrices();
        v.paste(0, 0, 10, 6, 5, 9);
        v.paste(0, 0, 5, 3, 6, 1);
        due.due("a day", v.pass(1), 15);
        for (int place = 0; place < 60; place++) {
            boolean wasHidden = place % 10 < 5 && place / 10 < 3;
            due.due("cell " + place + " of the lower one", v.varnish(0, place % 10, place / 10), wasHidden ? 9 : 8);
        }
        v.pass(1);
        due.due("the next day it fades there, too", v.varnish(0, 0, 0), 8);
        due.due("and everywhere", v.poster(0, 10), 15 * 8 + 45 * 7);
        VarnishPrices hidden = new VarnishPrices();
        hidden.paste(0, 0, 1, 1, 5, 99);
        hidden.paste(0, 0, 1, 1, 6, 50);
        hidden.paste(0, 0, 1, 1, 7, 9);
        for (int days = 1; days <= 8; days++) {
            due.due("one day more", hidden.pass(1), 0);
            due.due("the one that is seen", hidden.varnish(2, 0, 0), 9 - days);
            due.due("the one below it", hidden.varnish(1, 0, 0), 50);
            due.due("the lowest one", hidden.varnish(0, 0, 0), 99);
        }
        due.due("eleven days at once", hidden.pass(11), 1);
        due.due("the one below it then", hidden.varnish(1, 0, 0), 40);
        due.due("the lowest one", hidden.varnish(0, 0, 0), 99);
        VarnishPrices strong = new VarnishPrices();
        strong.sun(0, 9);
        strong.paste(0, 0, 1, 1, 5, 3);
        strong.paste(0, 0, 1, 1, 6, 1);
        due.due("a day of the strongest sun", strong.pass(1), 1);
        due.due("the one below has all", strong.varnish(0, 0, 0), 3);
        due.due("another day", strong.pass(1), 1);
        due.due("the one below is clear", strong.varnish(0, 0, 0), 0);
    }

    private void dayTakes() {
        due.sentence("the sun of its column, or what it has, if that is less");
        for (int sun = 0; sun <= 9; sun++) {
            for (int varnish = 1; varnish <= 12; varnish++) {
                VarnishPrices v = new VarnishPrices();
                v.sun(3, sun);
                v.paste(3, 2, 1, 1, 5, varnish);
                int left = varnish > sun ? varnish - sun : 0;
                due.due("a sun of " + sun + " at " + varnish, v.pass(1), left == 0 ? 1 : 0);
                due.due("what is left", v.varnish(0, 3, 2), left);
            }
        }
        VarnishPrices beside = new VarnishPrices();
        beside.sun(1, 9);
        beside.paste(0, 0, 3, 1, 5, 20);
        beside.pass(1);
        due.due("the column to the left", beside.varnish(0, 0, 0), 19);
        due.due("the column", beside.varnish(0, 1, 0), 11);
        due.due("the column to the right", beside.varnish(0, 2, 0), 19);
    }

    private void nextDay() {
        due.sentence("Then it is the next day.");
        VarnishPrices v = new VarnishPrices();
        for (int day = 1; day <= 5; day++) {
            v.pass(1);
            due.due("the day", v.count(1), day);
        }
        due.due("a hundred at once", v.pass(100), 0);
        due.due("the day", v.count(1), 105);
    }

    private void purses() {
        due.sentence("A buyer looks at a cell of the wall and has a purse (0 to 999). If a price is shown there, "
                + "and it is not above the purse, the poster sells for it.");
        int[][] rows = {{1, 0, Due.NOT_POSSIBLE}, {1, 1, 1}, {1, 2, 1}, {999, 998, Due.NOT_POSSIBLE},
            {999, 999, 999}, {500, 499, Due.NOT_POSSIBLE}, {500, 500, 500}, {500, 501, 500}, {500, 999, 500},
            {500, 1000, Due.BAD_VALUE}, {500, -1, Due.BAD_VALUE}};
        for (int[] row : rows) {
            VarnishPrices v = new VarnishPrices();
            v.paste(4, 4, 1, 1, row[0], 9);
            due.due("a price of " + row[0] + ", a purse of " + row[1], v.buy(4, 4, row[1]), row[2]);
            due.due("sales", v.poster(0, 8), row[2] > 0 ? 1 : 0);
            due.due("what they brought", v.poster(0, 9), Math.max(0, row[2]));
            due.due("a purse at a cell that shows none", v.buy(4, 5, 999), Due.NOT_POSSIBLE);
            due.due("all sales", v.count(8), row[2] > 0 ? 1 : 0);
        }
    }

    private void padOfSixty() {
        due.sentence("The pad is a text of at most 60 characters");
        for (int length = 0; length <= 60; length++) {
            VarnishPrices v = new VarnishPrices();
            Due.write(v, "0".repeat(length));
            due.due("its length", v.count(10), length);
            for (int more = 1; more <= 8; more++) {
                int fits = length + more <= 60 ? length + more : Due.TOO_MANY;
                VarnishPrices other = new VarnishPrices();
                Due.write(other, "0".repeat(length));
                due.due(more + " more behind " + length, other.put(Due.chars("0".repeat(more))), fits);
                due.due("its length then", other.count(10), Math.max(length, fits));
            }
        }
    }

    private void faultIs(String text, int want) {
        VarnishPrices v = new VarnishPrices();
        Due.write(v, text);
        due.due("fault of " + text, v.fault(), want);
        due.holds("buyAll of " + text, want == Due.NONE ? v.buyAll() == 0 : v.buyAll() == Due.BAD_TEXT);
    }

    private void grammar() {
        due.sentence("text = buyer { \";\" buyer }; buyer = x y \":\" purse; x is a digit from 0 to 9, y one from 0 "
                + "to 5, the purse a number from 0 to 999");
        for (int x = 0; x <= 9; x++) {
            for (int y = 0; y <= 9; y++) {
                faultIs("" + x + y + ":7", y <= 5 ? Due.NONE : 1);
            }
        }
        for (int purse = 0; purse <= 999; purse++) {
            faultIs("95:" + purse, Due.NONE);
        }
        for (int purse : new int[] {1000, 1001, 1999, 9990, 9999, 10000}) {
            faultIs("95:" + purse, 6);
        }
        String text = "";
        for (int buyers = 1; buyers <= 12; buyers++) {
            text = text + (buyers == 1 ? "" : ";") + "95:9";
            faultIs(text, Due.NONE);
        }
    }

    private void leadingZeros() {
        due.sentence("without leading zeros");
        faultIs("00:0", Due.NONE);
        faultIs("00:00", 4);
        faultIs("00:000", 4);
        faultIs("00:01", 4);
        faultIs("00:0999", 4);
        faultIs("00:0;00:07", 9);
        faultIs("00:10", Due.NONE);
        faultIs("00:100", Due.NONE);
        faultIs("00:900;00:0;00:90", Due.NONE);
    }

    private void firstThatCannotStand() {
        due.sentence("The fault is the index of the first character that cannot stand at its place when the text is "
                + "read from left to right (also of a digit by which a purse would be above 999)");
        String[] right = {"0", "0", ":", "1", ";", "9", "5", ":", "9", "9", "9"};
        String before = "";
        for (int at = 0; at < right.length; at++) {
            faultIs(before + "!", at);
            faultIs(before + "~:;00", at);
            before = before + right[at];
        }
        faultIs(before + "0", 11);
        faultIs(before + "9", 11);
        faultIs(before + ":", 11);
        faultIs(before + ";", 12);
        faultIs(before, Due.NONE);
        faultIs("0!!", 1);
        faultIs("00:1000;x", 6);
        // The last place of a full pad.
        String full = "00:999;10:999;20:999;30:999;40:999;50:999;60:999;70:999;80:";
        faultIs(full + "9", Due.NONE);
        faultIs(full + "0", Due.NONE);
        faultIs(full + ";", 59);
        faultIs(full + "x", 59);
    }

    private void endsTooEarly() {
        due.sentence("if there is none and the text ends too early (also if it is empty), it is the length of the "
                + "text");
        faultIs("", 0);
        String text = "12:0;34:999";
        for (int length = 1; length <= text.length(); length++) {
            boolean mayEnd = length == 4 || length >= 9;
            faultIs(text.substring(0, length), mayEnd ? Due.NONE : length);
        }
        String full = "00:999;10:999;20:999;30:999;40:999;50:999;60:999;70:9;80:99;";
        faultIs(full, 60);
        faultIs(full.substring(0, 59), Due.NONE);
        faultIs("00:999;10:999;20:999;30:999;40:999;50:999;60:999;70:9;80:9;9", 60);
    }

    private void lastOfTheCalls() {
        due.sentence("An object is used for at most 512 calls after it has been made");
        VarnishPrices v = new VarnishPrices();
        v.paste(0, 0, 10, 6, 999, 99);
        for (int call = 2; call < 512; call++) {
            due.due("buy, call " + call, v.buy(call % 10, call % 6, WILDEST), Due.BAD_VALUE);
        }
        due.due("the 512th call", v.buy(9, 5, 999), 999);
        VarnishPrices rich = new VarnishPrices();
        rich.paste(0, 0, 10, 6, 999, 99);
        for (int call = 2; call < 512; call++) {
            due.due("buy, call " + call, rich.buy(call % 10, call % 6, 999), 999);
        }
        due.due("what 510 sales brought", rich.poster(0, 9), 510 * 999);
    }
}
