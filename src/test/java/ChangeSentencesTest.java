import java.util.function.Consumer;

/**
 * The sentences of the promises 1 to 9 that name a boundary, one after the other, each with calls at the boundary and
 * just beyond it.
 */
public final class ChangeSentencesTest {
    private static final int MIN = Integer.MIN_VALUE;
    private static final int MAX = Integer.MAX_VALUE;

    private final Due due = new Due();

    private ChangeSentencesTest() { }

    public static void main(String[] args) {
        ChangeSentencesTest test = new ChangeSentencesTest();
        test.bareWall();
        test.pasteOverAll();
        test.pasteRanges();
        test.pasteOnTheWall();
        test.pasteOutOfRange();
        test.pasteTwelve();
        test.tearSeen();
        test.tearNone();
        test.coatSeen();
        test.coatCounts();
        test.coatRefused();
        test.scrapeGoesOn();
        test.scrapeCounts();
        test.scrapeRefused();
        test.sunPrevious();
        test.sunRefused();
        test.buyPrice();
        test.buyRefused();
        test.buyersGoAway();
        test.buyersAreOneChange();
        test.buyersCount();
        test.buyersFault();
        test.passClears();
        test.passRange();
        test.passLastDay();
        test.due.end();
    }

    private void bareWall() {
        due.sentence("1: Creates a bare wall.");
        VarnishPrices v = new VarnishPrices();
        due.due("posters", v.count(0), 0);
        due.due("cells that show a price", v.count(2), 0);
        due.due("there is no poster 0", v.poster(0, 4), Due.NO_SUCH);
        due.due("nothing to undo", v.count(11), 0);
        due.due("the pad", v.count(10), 0);
        for (int place = 0; place < 60; place++) {
            due.due("posters at a cell", v.cell(place % 10, place / 10, 3), 0);
            due.due("the price there", v.cell(place % 10, place / 10, 0), Due.NONE);
        }
    }

    private void pasteOverAll() {
        due.sentence("2: Pastes a poster over all others. .. Returns its number");
        VarnishPrices v = new VarnishPrices();
        for (int number = 0; number < 12; number++) {
            due.due("its number", v.paste(9, 5, 1, 1, 50 - number, 1 + number), number);
            due.due("the price that is shown", v.cell(9, 5, 0), 50 - number);
            due.due("changes", v.count(11), Math.min(6, number + 1));
        }
        v.tear(4);
        due.due("over those that moved down", v.paste(9, 5, 1, 1, 3, 1), 11);
        due.due("it is shown", v.cell(9, 5, 0), 3);
        VarnishPrices clear = Dump.made(Walls.onePoster(1));
        clear.pass(1);
        due.due("over a clear one", clear.paste(0, 0, 1, 1, 8, 1), 1);
        due.due("it has all its varnish", clear.varnish(1, 0, 0), 1);
        due.due("the one below stays clear", clear.varnish(0, 0, 0), 0);
    }

    private void pasteRanges() {
        due.sentence("2: x: its least x");
        due.range("x", 0, 9, Walls.BARE, (v, x) -> v.paste(x, 0, 1, 1, 5, 5), Due.NO_SUCH);
        due.sentence("2: y: its least y");
        due.range("y", 0, 5, Walls.BARE, (v, y) -> v.paste(0, y, 1, 1, 5, 5), Due.NO_SUCH);
        due.sentence("2: width: 1 to 10");
        due.range("width", 1, 10, Walls.BARE, (v, width) -> v.paste(0, 0, width, 1, 5, 5), Due.NO_SUCH);
        due.sentence("2: height: 1 to 6");
        due.range("height", 1, 6, Walls.BARE, (v, height) -> v.paste(0, 0, 1, height, 5, 5), Due.NO_SUCH);
        due.sentence("2: price: 1 to 999");
        due.range("price", 1, 999, Walls.BARE, (v, price) -> v.paste(0, 0, 1, 1, price, 5), Due.BAD_VALUE);
        due.sentence("2: varnish: 1 to 99");
        due.range("varnish", 1, 99, Walls.BARE, (v, varnish) -> v.paste(0, 0, 1, 1, 5, varnish), Due.BAD_VALUE);
    }

    private void pasteOnTheWall() {
        due.sentence("2: NO_SUCH if it would not be on the wall (x and y are on it, width and height at least 1, "
                + "and all of it)");
        for (int x = -2; x <= 11; x++) {
            for (int width = -2; width <= 13; width++) {
                boolean fits = x >= 0 && width >= 1 && x + width <= 10;
                due.due("paste at x " + x + " of width " + width, new VarnishPrices().paste(x, 5, width, 1, 5, 5),
                        fits ? 0 : Due.NO_SUCH);
            }
        }
        for (int y = -2; y <= 7; y++) {
            for (int height = -2; height <= 9; height++) {
                boolean fits = y >= 0 && height >= 1 && y + height <= 6;
                due.due("paste at y " + y + " of height " + height, new VarnishPrices().paste(9, y, 1, height, 5, 5),
                        fits ? 0 : Due.NO_SUCH);
            }
        }
        // Sums that wrap around are no way onto the wall.
        int[][] wild = {{9, 0, MAX, 1}, {1, 0, MAX, 1}, {0, 5, 1, MAX}, {0, 1, 1, MAX}, {MAX, 0, 1, 1}, {0, MAX, 1, 1},
            {MIN, 0, 1, 1}, {0, MIN, 1, 1}, {MIN, 0, MIN, 1}, {0, MIN, 1, MIN}, {MAX, 0, MAX, 1}, {0, MAX, 1, MAX},
            {MIN, 0, MAX, 1}, {0, MIN, 1, MAX}, {5, 0, MIN, 1}, {0, 5, 1, MIN}, {-1, 0, 2, 1}, {0, -1, 1, 2}};
        for (int[] at : wild) {
            due.unchanged("paste at " + at[0] + " " + at[1] + " of " + at[2] + " by " + at[3], Walls.BARE,
                    v -> v.paste(at[0], at[1], at[2], at[3], 5, 5), Due.NO_SUCH);
        }
    }

    private void pasteOutOfRange() {
        due.sentence("2: BAD_VALUE if price or varnish is out of range");
        for (int price : new int[] {MIN, -1, 0, 1, 999, 1000, MAX}) {
            for (int varnish : new int[] {MIN, -1, 0, 1, 99, 100, MAX}) {
                boolean good = (price == 1 || price == 999) && (varnish == 1 || varnish == 99);
                due.due("paste of the price " + price + ", varnish " + varnish,
                        new VarnishPrices().paste(0, 0, 1, 1, price, varnish), good ? 0 : Due.BAD_VALUE);
            }
        }
    }

    private void pasteTwelve() {
        due.sentence("2: TOO_MANY if there are 12");
        VarnishPrices v = Dump.made(Walls.PILE);
        due.due("a thirteenth", v.paste(0, 0, 1, 1, 1, 1), Due.TOO_MANY);
        v.pass(12);
        due.due("all twelve are clear", v.count(7), 12);
        due.due("they are there none the less", v.paste(0, 0, 1, 1, 1, 1), Due.TOO_MANY);
        v.tear(0);
        due.due("eleven", v.paste(0, 0, 1, 1, 1, 1), 11);
        due.due("twelve again", v.paste(0, 0, 1, 1, 1, 1), Due.TOO_MANY);
        v.undo();
        due.due("eleven again", v.paste(0, 0, 1, 1, 1, 1), 11);
    }

    private void tearSeen() {
        due.sentence("3: Returns how many of its cells were seen");
        VarnishPrices v = new VarnishPrices();
        v.paste(0, 0, 10, 6, 5, 5);
        v.paste(0, 0, 10, 5, 6, 5);
        v.paste(0, 0, 9, 5, 7, 2);
        due.due("a column of it", v.tear(1), 5);
        due.due("a row and a column of it", v.tear(0), 15);
        due.due("all of it", v.tear(0), 45);
        VarnishPrices whole = new VarnishPrices();
        whole.paste(0, 0, 10, 6, 5, 5);
        due.due("the whole wall", whole.tear(0), 60);
        VarnishPrices hidden = Dump.made(Walls.PILE);
        due.due("none of a hidden one", hidden.tear(10), 0);
        due.due("it is torn down", hidden.count(0), 11);
        hidden.pass(100);
        due.due("none of a clear one", hidden.tear(10), 0);
        due.due("each is a change", hidden.count(11), 6);
        due.due("undo", hidden.undo(), 5);
        due.due("it is there again", hidden.count(0), 11);
    }

    private void tearNone() {
        due.sentence("3: NO_SUCH if there is no such poster");
        due.unchanged("tear of a bare wall", Walls.BARE, v -> v.tear(0), Due.NO_SUCH);
        due.range("poster", 0, 11, Walls.TWELVE, VarnishPrices::tear, Due.NO_SUCH);
        due.range("poster", 0, 0, Walls.onePoster(1), VarnishPrices::tear, Due.NO_SUCH);
        VarnishPrices v = Dump.made(Walls.TWELVE);
        v.tear(0);
        due.due("the highest number is free then", v.tear(11), Due.NO_SUCH);
        due.due("the one below it is not", v.tear(10), 1);
    }

    private void coatSeen() {
        due.sentence("4: each of its cells that is seen gets more, but has 99 at most");
        int[][] rows = {{1, 1, 2}, {1, 97, 98}, {1, 98, 99}, {1, 99, 99}, {98, 1, 99}, {98, 2, 99}, {99, 1, 99},
            {99, 99, 99}, {50, 48, 98}, {50, 49, 99}, {50, 50, 99}};
        for (int[] row : rows) {
            VarnishPrices v = Dump.made(Walls.onePoster(row[0]));
            due.due("coat by " + row[1], v.coat(0, row[1]), 1);
            due.due(row[0] + " and " + row[1], v.varnish(0, 0, 0), row[2]);
        }
        VarnishPrices v = new VarnishPrices();
        v.paste(0, 0, 4, 1, 5, 10);
        v.paste(1, 0, 1, 1, 6, 10);
        v.paste(2, 0, 1, 1, 7, 3);
        v.scrape(2, 0, 3);
        v.scrape(3, 0, 10);
        due.due("two of its four cells are seen", v.coat(0, 90), 2);
        due.due("a seen one", v.varnish(0, 0, 0), 99);
        due.due("a hidden one", v.varnish(0, 1, 0), 10);
        due.due("one behind a clear one", v.varnish(0, 2, 0), 99);
        due.due("a clear one", v.varnish(0, 3, 0), 0);
        due.due("the one that hides", v.varnish(1, 1, 0), 10);
        due.due("the clear one above", v.varnish(2, 2, 0), 0);
    }

    private void coatCounts() {
        due.sentence("4: Returns how many cells got some (also if they had 99)");
        VarnishPrices v = new VarnishPrices();
        v.paste(0, 0, 10, 6, 5, 98);
        due.due("all have 98", v.coat(0, 1), 60);
        due.due("all have 99", v.coat(0, 1), 60);
        due.due("all still have 99", v.poster(0, 10), 60 * 99);
        v.scrape(0, 0, 99);
        due.due("one is clear", v.coat(0, 99), 59);
        v.paste(0, 0, 10, 6, 6, 1);
        due.due("all are hidden", v.coat(0, 99), 0);
        due.due("it is a change, too", v.undo(), 5);
        VarnishPrices clear = Dump.made(Walls.onePoster(1));
        clear.pass(1);
        due.due("all are clear", clear.coat(0, 99), 0);
        due.due("changes", clear.count(11), 3);
    }

    private void coatRefused() {
        due.sentence("4: NO_SUCH if there is no such poster; BAD_VALUE if by is out of range .. by: 1 to 99");
        due.unchanged("coat of a bare wall", Walls.BARE, v -> v.coat(0, 1), Due.NO_SUCH);
        due.unchanged("coat of a bare wall by none", Walls.BARE, v -> v.coat(0, 0), Due.NO_SUCH);
        due.range("poster", 0, 11, Walls.TWELVE, (v, poster) -> v.coat(poster, 1), Due.NO_SUCH);
        due.range("by", 1, 99, Walls.onePoster(5), (v, by) -> v.coat(0, by), Due.BAD_VALUE);
    }

    private void scrapeIs(int by, int cleared, int... left) {
        VarnishPrices v = new VarnishPrices();
        v.paste(3, 3, 2, 2, 1, 99);
        v.paste(3, 3, 2, 2, 1, 3);
        v.paste(3, 3, 2, 2, 1, 7);
        v.scrape(3, 3, 7);
        v.paste(3, 3, 2, 2, 1, 5);
        due.due("scrape by " + by, v.scrape(3, 3, by), cleared);
        for (int poster = 0; poster < left.length; poster++) {
            due.due("what poster " + poster + " has", v.varnish(poster, 3, 3), left[poster]);
        }
        due.due("what it has beside", v.varnish(0, 4, 3) + v.varnish(1, 3, 4) + v.varnish(3, 4, 4), 99 + 3 + 5);
    }

    private void scrapeGoesOn() {
        due.sentence("5: the cell of a poster that is seen there loses varnish; if that is not enough, the one that "
                + "is seen then loses the rest, and so on");
        scrapeIs(1, 0, 99, 3, 0, 4);
        scrapeIs(4, 0, 99, 3, 0, 1);
        scrapeIs(5, 1, 99, 3, 0, 0);
        scrapeIs(6, 1, 99, 2, 0, 0);
        scrapeIs(7, 1, 99, 1, 0, 0);
        scrapeIs(8, 2, 99, 0, 0, 0);
        scrapeIs(9, 2, 98, 0, 0, 0);
        scrapeIs(106, 2, 1, 0, 0, 0);
        scrapeIs(107, 3, 0, 0, 0, 0);
        scrapeIs(108, 3, 0, 0, 0, 0);
        scrapeIs(300, 3, 0, 0, 0, 0);
    }

    private void scrapeCounts() {
        due.sentence("5: Returns how many cells of posters become clear");
        for (int by = 1; by <= 14; by++) {
            due.due("scrape at twelve by " + by, Dump.made(Walls.PILE).scrape(9, 5, by), Math.min(by, 12));
        }
        VarnishPrices v = new VarnishPrices();
        for (int i = 0; i < 4; i++) {
            v.paste(0, 0, 1, 1, 5, 99);
        }
        due.due("300 of 396", v.scrape(0, 0, 300), 3);
        due.due("the rest", v.varnish(0, 0, 0), 96);
        due.due("none becomes clear", v.scrape(0, 0, 95), 0);
        due.due("the last one", v.scrape(0, 0, 1), 1);
        due.due("each is a change", v.count(11), 6);
    }

    private void scrapeRefused() {
        due.sentence("5: NO_SUCH if there is no such cell; BAD_VALUE if by is out of range; NOT_POSSIBLE if no "
                + "price is shown there .. by: 1 to 300");
        Consumer<VarnishPrices> pile = v -> {
            for (int i = 0; i < 4; i++) {
                v.paste(9, 5, 1, 1, 5, 99);
            }
        };
        due.range("by", 1, 300, pile, (v, by) -> v.scrape(9, 5, by), Due.BAD_VALUE);
        int[][] nowhere = {{-1, 0}, {10, 0}, {0, -1}, {0, 6}, {MIN, 0}, {MAX, 0}, {0, MIN}, {0, MAX}, {-1, 6}, {10, -1},
            {19, 4}, {-1, 5}};
        for (int[] at : nowhere) {
            due.unchanged("scrape at " + at[0] + " " + at[1], pile, v -> v.scrape(at[0], at[1], 1), Due.NO_SUCH);
        }
        due.unchanged("scrape a bare wall", Walls.BARE, v -> v.scrape(0, 0, 1), Due.NOT_POSSIBLE);
        due.unchanged("scrape beside", pile, v -> v.scrape(8, 5, 300), Due.NOT_POSSIBLE);
        Consumer<VarnishPrices> clear = Walls.onePoster(3).andThen(v -> v.scrape(0, 0, 3));
        due.unchanged("scrape a clear one", clear, v -> v.scrape(0, 0, 1), Due.NOT_POSSIBLE);
        due.due("scrape a varnish of 1", Dump.made(Walls.onePoster(1)).scrape(0, 0, 1), 1);
    }

    private void sunPrevious() {
        due.sentence("6: Returns the previous one");
        VarnishPrices v = new VarnishPrices();
        int previous = 1;
        for (int strength : new int[] {0, 9, 9, 0, 0, 5}) {
            due.due("sun(9, " + strength + ")", v.sun(9, strength), previous);
            due.due("it is changed", v.sunOf(9), strength);
            previous = strength;
        }
        due.due("each is a change, the same one, too", v.count(11), 6);
        due.due("another column", v.sun(8, 0), 1);
    }

    private void sunRefused() {
        due.sentence("6: NO_SUCH if there is no such column; BAD_VALUE if strength is out of range .. strength: 0 "
                + "to 9");
        due.range("column", 0, 9, Walls.BARE, (v, x) -> v.sun(x, 5), Due.NO_SUCH);
        due.range("strength", 0, 9, Walls.BARE, (v, strength) -> v.sun(0, strength), Due.BAD_VALUE);
        due.range("strength", 0, 9, Walls.BARE, (v, strength) -> v.sun(9, strength), Due.BAD_VALUE);
    }

    private void buyPrice() {
        due.sentence("7: Returns the price that is paid .. purse: 0 to 999");
        VarnishPrices v = new VarnishPrices();
        v.paste(0, 0, 1, 1, 999, 9);
        v.paste(1, 0, 1, 1, 1, 9);
        due.due("the greatest", v.buy(0, 0, 999), 999);
        due.due("the least", v.buy(1, 0, 1), 1);
        due.due("the least, with the greatest purse", v.buy(1, 0, 999), 1);
        due.due("each is a change", v.count(11), 5);
        due.due("an empty purse is in the range", v.buy(1, 0, 0), Due.NOT_POSSIBLE);
        for (int purse = 1; purse <= 999; purse++) {
            VarnishPrices cheap = new VarnishPrices();
            cheap.paste(0, 0, 1, 1, 1, 9);
            due.due("a purse of " + purse, cheap.buy(0, 0, purse), 1);
        }
    }

    private void buyRefused() {
        due.sentence("7: NO_SUCH if there is no such cell; BAD_VALUE if purse is out of range; NOT_POSSIBLE if no "
                + "price is shown there, or it is above the purse");
        Consumer<VarnishPrices> dear = v -> {
            v.paste(0, 0, 2, 1, 999, 9);
            v.scrape(1, 0, 9);
            v.buy(0, 0, 999);
        };
        int[][] nowhere = {{-1, 0}, {10, 0}, {0, -1}, {0, 6}, {MIN, 0}, {MAX, 0}, {0, MIN}, {0, MAX}, {-10, 1}};
        for (int[] at : nowhere) {
            due.unchanged("buy at " + at[0] + " " + at[1], dear, v -> v.buy(at[0], at[1], 999), Due.NO_SUCH);
        }
        for (int purse : new int[] {MIN, -1, 1000, MAX}) {
            due.unchanged("buy for " + purse, dear, v -> v.buy(0, 0, purse), Due.BAD_VALUE);
        }
        due.unchanged("buy for 998", dear, v -> v.buy(0, 0, 998), Due.NOT_POSSIBLE);
        due.unchanged("buy for 0", dear, v -> v.buy(0, 0, 0), Due.NOT_POSSIBLE);
        due.unchanged("buy at a clear cell", dear, v -> v.buy(1, 0, 999), Due.NOT_POSSIBLE);
        due.unchanged("buy at a bare cell", dear, v -> v.buy(2, 0, 999), Due.NOT_POSSIBLE);
        due.unchanged("buy at a bare wall", Walls.BARE, v -> v.buy(0, 0, 0), Due.NOT_POSSIBLE);
    }

    private void buyersGoAway() {
        due.sentence("8: The buyers of the pad come, one after the other; those who cannot pay go away without "
                + "anything; and the pad is emptied.");
        VarnishPrices v = new VarnishPrices();
        v.paste(0, 0, 1, 1, 10, 9);
        v.paste(1, 0, 1, 1, 100, 9);
        Due.write(v, "00:9;10:99;20:999;00:10;10:100;00:0;95:999");
        due.due("two of seven", v.buyAll(), 2);
        due.due("sales of the first poster", v.poster(0, 8), 1);
        due.due("what they brought", v.poster(0, 9), 10);
        due.due("sales of the second one", v.poster(1, 8), 1);
        due.due("what they brought", v.poster(1, 9), 100);
        due.due("what all brought", v.count(9), 110);
        due.due("the pad", v.count(10), 0);
        due.due("none come again", v.buyAll(), Due.BAD_TEXT);
    }

    private void buyersAreOneChange() {
        due.sentence("8: This is a change (one, with all of them; also if nobody pays).");
        VarnishPrices v = new VarnishPrices();
        v.paste(0, 0, 1, 1, 9, 9);
        Due.write(v, "00:9;00:9;00:9");
        due.due("three pay", v.buyAll(), 3);
        due.due("one change", v.count(11), 2);
        due.due("undo", v.undo(), 1);
        due.due("none of the three has paid", v.count(8), 0);
        due.due("the pad is empty none the less", v.count(10), 0);
        Due.write(v, "00:8;10:9");
        due.due("nobody pays", v.buyAll(), 0);
        due.due("one change", v.count(11), 2);
        due.due("the pad is emptied", v.count(10), 0);
        due.due("undo", v.undo(), 1);
        due.due("the poster is there", v.count(0), 1);
    }

    private void buyersCount() {
        due.sentence("8: Returns how many pay");
        VarnishPrices v = new VarnishPrices();
        v.paste(0, 0, 1, 1, 9, 9);
        StringBuilder text = new StringBuilder("00:9");
        for (int buyers = 1; buyers <= 12; buyers++) {
            Due.write(v, text.toString());
            due.due(buyers + " buyers", v.buyAll(), buyers);
            text.append(";00:9");
        }
        due.due("all sales", v.count(8), 78);
        v.paste(0, 0, 1, 1, 123, 9);
        for (int purse : new int[] {1, 12, 122, 123, 124, 999}) {
            Due.write(v, "00:999;00:" + purse);
            due.due("the last one has " + purse, v.buyAll(), purse < 123 ? 1 : 2);
            Due.write(v, "00:" + purse + ";00:0");
            due.due("the first one has " + purse, v.buyAll(), purse < 123 ? 0 : 1);
        }
        v.tear(1);
        Due.write(v, "10:9");
        due.due("one, and he can't pay", v.buyAll(), 0);
        Due.write(v, "10:9;00:9");
        due.due("the last one pays", v.buyAll(), 1);
        Due.write(v, "00:9;10:9");
        due.due("the first one pays", v.buyAll(), 1);
    }

    private void buyersFault() {
        due.sentence("8: BAD_TEXT if the pad has a fault");
        Consumer<VarnishPrices> cheap = v -> v.paste(0, 0, 1, 1, 1, 9);
        for (String text : new String[] {"", "0", "00", "00:", "00:1;", "00:1;0", "00:1;00", "00:1;00:", "00:01",
            "00:1000", "06:1", "a", "00:1;a", "00:1;06:1", "00:1;00:1;00:1000"}) {
            due.unchanged("buyAll of " + text, cheap.andThen(v -> Due.write(v, text)), VarnishPrices::buyAll,
                    Due.BAD_TEXT);
        }
    }

    private void passClears() {
        due.sentence("9: Returns how many cells of posters become clear in them");
        for (int days = 1; days <= 14; days++) {
            due.due("a pile of twelve in " + days, Dump.made(Walls.PILE).pass(days), 60 * Math.min(days, 12));
        }
        VarnishPrices v = new VarnishPrices();
        v.sun(0, 0);
        v.sun(1, 9);
        v.paste(0, 0, 3, 1, 5, 99);
        due.due("10 days", v.pass(10), 0);
        due.due("the 11th day", v.pass(1), 1);
        due.due("on to the 98th", v.pass(87), 0);
        due.due("what is left", v.varnish(0, 2, 0), 1);
        due.due("the 99th day", v.pass(1), 1);
        due.due("a hundred more", v.pass(100), 0);
        due.due("no sun", v.varnish(0, 0, 0), 99);
        due.due("a bare wall", new VarnishPrices().pass(100), 0);
        VarnishPrices once = new VarnishPrices();
        once.paste(0, 0, 1, 1, 5, 99);
        once.paste(0, 0, 1, 1, 6, 1);
        due.due("1 and 99 in 100 days", once.pass(100), 2);
        once.undo();
        due.due("in 99 days", once.pass(99), 1);
        due.due("what is left", once.varnish(0, 0, 0), 1);
    }

    private void passRange() {
        due.sentence("9: BAD_VALUE if days is out of range .. days: 1 to 100");
        due.range("days", 1, 100, Walls.onePoster(50), VarnishPrices::pass, Due.BAD_VALUE);
        for (int days = 1; days <= 100; days++) {
            VarnishPrices v = new VarnishPrices();
            v.pass(days);
            due.due("the day then", v.count(1), days);
        }
    }

    private void passLastDay() {
        due.sentence("9: TOO_MANY if the present day would be above 9999");
        Consumer<VarnishPrices> late = v -> {
            for (int i = 0; i < 99; i++) {
                v.pass(100);
            }
            v.paste(0, 0, 1, 1, 5, 99);
        };
        for (int days = 98; days <= 100; days++) {
            VarnishPrices v = Dump.made(late);
            due.due("from 9900 " + days + " days on", v.pass(days), days == 98 ? 0 : days == 99 ? 1 : Due.TOO_MANY);
            due.due("the day then", v.count(1), days == 100 ? 9900 : 9900 + days);
            due.due("what is left", v.varnish(0, 0, 0), days == 100 ? 99 : 99 - days);
        }
        Consumer<VarnishPrices> last = late.andThen(v -> v.pass(99));
        for (int days = 1; days <= 100; days++) {
            due.due("from 9999 " + days + " days on", Dump.made(last).pass(days), Due.TOO_MANY);
        }
        due.unchanged("pass beyond the last day", last, v -> v.pass(1), Due.TOO_MANY);
        due.unchanged("pass 0 days then", last, v -> v.pass(0), Due.BAD_VALUE);
        due.unchanged("pass 101 days then", last, v -> v.pass(101), Due.BAD_VALUE);
        due.unchanged("pass a wild number then", last, v -> v.pass(MAX), Due.BAD_VALUE);
    }
}
