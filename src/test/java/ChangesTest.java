import java.util.function.Consumer;

/** Promises 1 to 9: a new object and the changes. */
public final class ChangesTest {
    private static final Consumer<VarnishPrices> BARE = v -> { };
    /** Three posters over one another at (1, 1), the middle one of one cell. */
    private static final Consumer<VarnishPrices> THREE = v -> {
        v.paste(0, 0, 3, 3, 50, 20);
        v.paste(1, 1, 1, 1, 60, 4);
        v.paste(1, 0, 2, 2, 70, 7);
    };

    private ChangesTest() { }

    public static void main(String[] args) {
        Due due = new Due();
        newObject(due);
        paste(due);
        pasteRefused(due);
        tear(due);
        coat(due);
        scrape(due);
        scrapeRefused(due);
        sun(due);
        buy(due);
        buyRefused(due);
        buyAll(due);
        buyAllRefused(due);
        pass(due);
        passThroughLayers(due);
        passRefused(due);
        due.end();
    }

    private static void newObject(Due due) {
        VarnishPrices v = new VarnishPrices();
        int[] numbers = {0, 0, 0, 0, VarnishPrices.NONE, 0, 0, 0, 0, 0, 0, 0};
        for (int what = 0; what < numbers.length; what++) {
            due.due("new: count(" + what + ")", v.count(what), numbers[what]);
        }
        for (int place = 0; place < 60; place++) {
            due.due("new: cell 0", v.cell(place % 10, place / 10, 0), VarnishPrices.NONE);
            due.due("new: cell 1", v.cell(place % 10, place / 10, 1), VarnishPrices.NONE);
            due.due("new: cell 3", v.cell(place % 10, place / 10, 3), 0);
        }
        for (int x = 0; x < 10; x++) {
            due.due("new: sunOf", v.sunOf(x), 1);
        }
        due.due("new: undo", v.undo(), VarnishPrices.NOT_POSSIBLE);
        due.due("new: restore 0", v.restore(0), VarnishPrices.NOT_POSSIBLE);
        due.due("new: restore 1", v.restore(1), VarnishPrices.NOT_POSSIBLE);
        due.due("new: fault", v.fault(), 0);
        VarnishPrices other = new VarnishPrices();
        v.paste(0, 0, 1, 1, 1, 1);
        due.due("an object of its own", other.count(0), 0);
    }

    private static void paste(Due due) {
        VarnishPrices v = new VarnishPrices();
        due.due("first", v.paste(2, 1, 3, 2, 40, 9), 0);
        due.due("over it", v.paste(4, 2, 6, 4, 999, 99), 1);
        for (int place = 0; place < 60; place++) {
            int x = place % 10;
            int y = place / 10;
            boolean inSecond = x >= 4 && y >= 2;
            boolean inFirst = x >= 2 && x <= 4 && y >= 1 && y <= 2;
            due.due("pasted cell " + x + " " + y, v.cell(x, y, 0),
                    inSecond ? 999 : inFirst ? 40 : VarnishPrices.NONE);
            due.due("varnish 0 at " + x + " " + y, v.varnish(0, x, y), inFirst ? 9 : VarnishPrices.NONE);
            due.due("varnish 1 at " + x + " " + y, v.varnish(1, x, y), inSecond ? 99 : VarnishPrices.NONE);
        }
        due.due("it is a change", v.count(11), 2);
        VarnishPrices edges = new VarnishPrices();
        due.due("whole wall", edges.paste(0, 0, 10, 6, 1, 1), 0);
        due.due("last cell", edges.paste(9, 5, 1, 1, 999, 99), 1);
        due.due("last column", edges.paste(9, 0, 1, 6, 1, 1), 2);
        due.due("last row", edges.paste(0, 5, 10, 1, 1, 1), 3);
        for (int number = 4; number < 12; number++) {
            due.due("one more", edges.paste(0, 0, 1, 1, number, 1), number);
        }
        edges.buy(1, 5, 999);
        due.due("a thirteenth", edges.paste(0, 0, 1, 1, 1, 1), VarnishPrices.TOO_MANY);
        due.due("when one is torn", edges.tear(3), 10);
        due.due("a twelfth again", edges.paste(0, 0, 1, 1, 1, 1), 11);
        due.due("its sales", edges.poster(11, 8), 0);
        due.due("what they brought", edges.poster(11, 9), 0);
        due.due("its varnish elsewhere", edges.varnish(11, 0, 5), VarnishPrices.NONE);
        due.due("nothing is left of the torn one", edges.cell(1, 5, 1), 0);
    }

    private static void pasteRefused(Due due) {
        int[][] offWall = {
            {-1, 0, 1, 1}, {10, 0, 1, 1}, {0, -1, 1, 1}, {0, 6, 1, 1}, {0, 0, 0, 1}, {0, 0, 1, 0}, {0, 0, -1, 1},
            {0, 0, 1, -1}, {0, 0, 11, 1}, {0, 0, 1, 7}, {5, 0, 6, 1}, {0, 3, 1, 4}, {9, 5, 2, 1}, {9, 5, 1, 2},
            {1, 0, Integer.MAX_VALUE, 1}, {0, 1, 1, Integer.MAX_VALUE}, {Integer.MIN_VALUE, 0, 1, 1},
            {Integer.MAX_VALUE, 0, 1, 1}, {0, Integer.MIN_VALUE, 1, 1}, {0, Integer.MAX_VALUE, 1, 1},
            {9, 0, Integer.MIN_VALUE, 1}, {0, 5, 1, Integer.MIN_VALUE}, {-5, 0, 7, 1}, {0, -5, 1, 7},
        };
        for (int[] at : offWall) {
            String call = "paste off the wall at " + at[0] + " " + at[1] + " of " + at[2] + " by " + at[3];
            due.unchanged(call, BARE, v -> v.paste(at[0], at[1], at[2], at[3], 5, 5), VarnishPrices.NO_SUCH);
            due.unchanged(call + " and price", THREE, v -> v.paste(at[0], at[1], at[2], at[3], 0, 0),
                    VarnishPrices.NO_SUCH);
        }
        int[][] badValues = {{0, 5}, {1000, 5}, {-1, 5}, {Integer.MAX_VALUE, 5}, {Integer.MIN_VALUE, 5}, {5, 0},
            {5, 100}, {5, -1}, {5, Integer.MAX_VALUE}, {5, Integer.MIN_VALUE}};
        Consumer<VarnishPrices> full = v -> {
            for (int i = 0; i < 12; i++) {
                v.paste(i % 10, i % 6, 1, 1, i + 1, i + 1);
            }
        };
        for (int[] values : badValues) {
            String call = "paste with price " + values[0] + " and varnish " + values[1];
            due.unchanged(call, BARE, v -> v.paste(0, 0, 1, 1, values[0], values[1]), VarnishPrices.BAD_VALUE);
            due.unchanged(call + ", full", full, v -> v.paste(0, 0, 1, 1, values[0], values[1]),
                    VarnishPrices.BAD_VALUE);
        }
        due.unchanged("paste, full and off the wall", full, v -> v.paste(0, 0, 0, 1, 1, 1), VarnishPrices.NO_SUCH);
        due.unchanged("paste, full", full, v -> v.paste(0, 0, 1, 1, 1, 1), VarnishPrices.TOO_MANY);
    }

    private static void tear(Due due) {
        VarnishPrices v = Dump.made(THREE);
        v.buy(0, 0, 999);
        v.buy(1, 1, 999);
        due.due("tear the middle one, hidden", v.tear(1), 0);
        due.due("posters then", v.count(0), 2);
        due.due("the upper one moves down", v.poster(1, 4), 70);
        due.due("with its sales", v.poster(1, 8), 1);
        due.due("with its varnish", v.varnish(1, 2, 1), 7);
        due.due("the lower one stays", v.poster(0, 4), 50);
        due.due("tear the upper one", v.tear(1), 4);
        due.due("what is below is shown", v.cell(1, 1, 0), 50);
        due.due("sales stay", v.count(8), 2);
        due.due("what they brought stays", v.count(9), 120);
        due.due("tear the last one", v.tear(0), 9);
        due.due("bare", v.count(2), 0);
        due.due("each was a change", v.count(11), 6);
        VarnishPrices faded = new VarnishPrices();
        faded.paste(0, 0, 2, 2, 5, 3);
        faded.scrape(1, 1, 3);
        due.due("clear cells are not seen", faded.tear(0), 3);
        for (int poster : new int[] {3, -1, 12, Integer.MAX_VALUE, Integer.MIN_VALUE}) {
            due.unchanged("tear " + poster, THREE, w -> w.tear(poster), VarnishPrices.NO_SUCH);
        }
        due.unchanged("tear of a bare wall", BARE, w -> w.tear(0), VarnishPrices.NO_SUCH);
    }

    private static void coat(Due due) {
        VarnishPrices v = Dump.made(THREE);
        due.due("coat the lowest one", v.coat(0, 5), 5);
        due.due("a seen cell has more", v.varnish(0, 0, 0), 25);
        due.due("a hidden one has not", v.varnish(0, 1, 1), 20);
        due.due("another poster has not", v.varnish(2, 1, 1), 7);
        due.due("coat up to 99", v.coat(0, 74), 5);
        due.due("it has 99", v.varnish(0, 2, 2), 99);
        due.due("coat at 99", v.coat(0, 99), 5);
        due.due("it still has 99", v.varnish(0, 2, 2), 99);
        due.due("coat a hidden one", v.coat(1, 9), 0);
        due.due("it is a change, too", v.undo(), 5);
        v.scrape(1, 0, 7);
        due.due("a clear cell gets none", v.coat(2, 1), 3);
        due.due("it stays clear", v.varnish(2, 1, 0), 0);
        for (int poster : new int[] {3, -1, Integer.MAX_VALUE, Integer.MIN_VALUE}) {
            due.unchanged("coat " + poster, THREE, w -> w.coat(poster, 5), VarnishPrices.NO_SUCH);
            due.unchanged("coat by 0 " + poster, THREE, w -> w.coat(poster, 0), VarnishPrices.NO_SUCH);
        }
        for (int by : new int[] {0, 100, -1, Integer.MAX_VALUE, Integer.MIN_VALUE}) {
            due.unchanged("coat by " + by, THREE, w -> w.coat(0, by), VarnishPrices.BAD_VALUE);
        }
    }

    private static void scrape(Due due) {
        VarnishPrices v = Dump.made(THREE);
        due.due("scrape a little", v.scrape(1, 1, 6), 0);
        due.due("it has less", v.varnish(2, 1, 1), 1);
        due.due("the one below has all", v.varnish(1, 1, 1), 4);
        due.due("scrape to 0", v.scrape(1, 1, 1), 1);
        due.due("no rest below", v.varnish(1, 1, 1), 4);
        due.due("it is clear", v.cell(1, 1, 1), 1);
        v.undo();
        v.undo();
        due.due("scrape two layers and a rest", v.scrape(1, 1, 13), 2);
        due.due("the rest is taken below", v.varnish(0, 1, 1), 18);
        due.due("only there", v.varnish(2, 2, 1), 7);
        due.due("scrape more than there is", v.scrape(1, 1, 300), 1);
        due.due("nothing is shown", v.cell(1, 1, 0), VarnishPrices.NONE);
        due.due("nothing to scrape", v.scrape(1, 1, 1), VarnishPrices.NOT_POSSIBLE);
        due.due("changes so far", v.count(11), 5);
        VarnishPrices deep = new VarnishPrices();
        for (int i = 0; i < 4; i++) {
            deep.paste(3, 3, 1, 1, 9 - i, 99);
        }
        due.due("300 of 396", deep.scrape(3, 3, 300), 3);
        due.due("96 are left", deep.varnish(0, 3, 3), 96);
    }

    private static void scrapeRefused(Due due) {
        int[][] places = {{-1, 0}, {10, 0}, {0, -1}, {0, 6}, {Integer.MIN_VALUE, 0}, {0, Integer.MAX_VALUE}};
        for (int[] at : places) {
            String call = "scrape at " + at[0] + " " + at[1];
            due.unchanged(call, THREE, v -> v.scrape(at[0], at[1], 1), VarnishPrices.NO_SUCH);
            due.unchanged(call + " by 0", THREE, v -> v.scrape(at[0], at[1], 0), VarnishPrices.NO_SUCH);
        }
        for (int by : new int[] {0, 301, -1, Integer.MAX_VALUE, Integer.MIN_VALUE}) {
            due.unchanged("scrape by " + by, THREE, v -> v.scrape(0, 0, by), VarnishPrices.BAD_VALUE);
            due.unchanged("scrape nothing by " + by, THREE, v -> v.scrape(9, 5, by), VarnishPrices.BAD_VALUE);
        }
        due.unchanged("scrape nothing", THREE, v -> v.scrape(9, 5, 1), VarnishPrices.NOT_POSSIBLE);
        Consumer<VarnishPrices> clear = THREE.andThen(v -> v.scrape(0, 0, 20));
        due.unchanged("scrape a clear cell", clear, v -> v.scrape(0, 0, 1), VarnishPrices.NOT_POSSIBLE);
    }

    private static void sun(Due due) {
        VarnishPrices v = new VarnishPrices();
        due.due("sun 9", v.sun(3, 9), 1);
        due.due("it is changed", v.sunOf(3), 9);
        due.due("another one is not", v.sunOf(2), 1);
        due.due("sun 0", v.sun(3, 0), 9);
        due.due("the same again", v.sun(3, 0), 0);
        due.due("each is a change", v.count(11), 3);
        due.due("first column", v.sun(0, 5), 1);
        due.due("last column", v.sun(9, 6), 1);
        due.due("it is changed", v.sunOf(9), 6);
        for (int x : new int[] {-1, 10, Integer.MAX_VALUE, Integer.MIN_VALUE}) {
            due.unchanged("sun of " + x, THREE, w -> w.sun(x, 5), VarnishPrices.NO_SUCH);
            due.unchanged("sun 10 of " + x, THREE, w -> w.sun(x, 10), VarnishPrices.NO_SUCH);
        }
        for (int strength : new int[] {-1, 10, Integer.MAX_VALUE, Integer.MIN_VALUE}) {
            due.unchanged("sun " + strength, THREE, w -> w.sun(0, strength), VarnishPrices.BAD_VALUE);
        }
    }

    private static void buy(Due due) {
        VarnishPrices v = Dump.made(THREE);
        due.due("purse above", v.buy(1, 1, 999), 70);
        due.due("purse of the price", v.buy(1, 1, 70), 70);
        due.due("the lowest one", v.buy(0, 2, 50), 50);
        due.due("sales of the upper one", v.poster(2, 8), 2);
        due.due("what they brought", v.poster(2, 9), 140);
        due.due("sales of the lowest one", v.poster(0, 8), 1);
        due.due("sales of the hidden one", v.poster(1, 8), 0);
        due.due("all sales", v.count(8), 3);
        due.due("what all brought", v.count(9), 190);
        due.due("each is a change", v.count(11), 6);
        v.undo();
        due.due("undone", v.count(9), 140);
        due.due("undone at the poster", v.poster(0, 9), 0);
        due.due("nothing fades by it", v.varnish(2, 1, 1), 7);
    }

    private static void buyRefused(Due due) {
        int[][] places = {{-1, 0}, {10, 0}, {0, -1}, {0, 6}, {Integer.MAX_VALUE, 0}, {0, Integer.MIN_VALUE}};
        for (int[] at : places) {
            String call = "buy at " + at[0] + " " + at[1];
            due.unchanged(call, THREE, v -> v.buy(at[0], at[1], 99), VarnishPrices.NO_SUCH);
            due.unchanged(call + " with a bad purse", THREE, v -> v.buy(at[0], at[1], -1), VarnishPrices.NO_SUCH);
        }
        for (int purse : new int[] {-1, 1000, Integer.MAX_VALUE, Integer.MIN_VALUE}) {
            due.unchanged("buy for " + purse, THREE, v -> v.buy(0, 0, purse), VarnishPrices.BAD_VALUE);
            due.unchanged("buy nothing for " + purse, THREE, v -> v.buy(9, 5, purse), VarnishPrices.BAD_VALUE);
        }
        due.unchanged("buy nothing", THREE, v -> v.buy(9, 5, 999), VarnishPrices.NOT_POSSIBLE);
        due.unchanged("buy too dear", THREE, v -> v.buy(1, 1, 69), VarnishPrices.NOT_POSSIBLE);
        due.unchanged("buy for 0", THREE, v -> v.buy(1, 1, 0), VarnishPrices.NOT_POSSIBLE);
    }

    private static void buyAll(Due due) {
        VarnishPrices v = Dump.made(THREE);
        Due.write(v, "00:50;11:69;11:70;95:999;00:0;22:51;12:999");
        due.due("buyAll", v.buyAll(), 4);
        due.due("the pad is empty", v.count(10), 0);
        due.due("the pad has its fault at 0", v.fault(), 0);
        due.due("sales of the lowest one", v.poster(0, 8), 3);
        due.due("what they brought", v.poster(0, 9), 150);
        due.due("sales of the upper one", v.poster(2, 8), 1);
        due.due("all sales", v.count(8), 4);
        due.due("what all brought", v.count(9), 220);
        due.due("one change", v.count(11), 4);
        due.due("undone at once", v.undo(), 3);
        due.due("no sales", v.count(8), 0);
        due.due("no sales of the poster", v.poster(0, 8), 0);
        due.due("the pad stays empty", v.count(10), 0);
        Due.write(v, "95:999");
        due.due("nobody pays", v.buyAll(), 0);
        due.due("it is a change", v.count(11), 4);
        due.due("and the pad is emptied", v.count(10), 0);
        Due.write(v, "00:50;00:50;00:50;00:50;00:50;00:50;00:50;00:50;00:50;00:50");
        due.due("the same one buys ten times", v.buyAll(), 10);
        due.due("which bring", v.poster(0, 9), 500);
        Due.write(v, "01:50");
        v.put(Due.chars(";"));
        v.put(Due.chars("0"));
        v.put(Due.chars("2:999"));
        due.due("put in parts", v.buyAll(), 2);
        Due.write(v, "00:50;95:999");
        due.due("the first one pays, the last one does not", v.buyAll(), 1);
        Due.write(v, "00:999;10:999;20:999;00:999;10:999;20:999;00:999;10:999;00:9");
        due.due("a full pad", v.buyAll(), 8);
    }

    private static void buyAllRefused(Due due) {
        String[] faulty = {"", "0", "00", "00:", "00:50;", "00:50;0", "00:050", "06:50", "00:1000", "x", "00:50,"};
        for (String text : faulty) {
            due.unchanged("buyAll of " + text, THREE.andThen(v -> Due.write(v, text)), VarnishPrices::buyAll,
                    VarnishPrices.BAD_TEXT);
        }
    }

    private static void pass(Due due) {
        VarnishPrices v = new VarnishPrices();
        v.sun(1, 4);
        v.sun(2, 0);
        v.sun(3, 9);
        v.paste(0, 0, 4, 1, 30, 8);
        due.due("a day", v.pass(1), 1);
        due.due("sun 1", v.varnish(0, 0, 0), 7);
        due.due("sun 4", v.varnish(0, 1, 0), 4);
        due.due("sun 0", v.varnish(0, 2, 0), 8);
        due.due("sun 9 takes what it has", v.varnish(0, 3, 0), 0);
        due.due("the day", v.count(1), 1);
        due.due("another day", v.pass(1), 1);
        due.due("it is clear to the day", v.cell(1, 0, 0), VarnishPrices.NONE);
        due.due("five days", v.pass(5), 0);
        due.due("sun 1 then", v.varnish(0, 0, 0), 1);
        due.due("the last one", v.pass(1), 1);
        due.due("the day", v.count(1), 8);
        due.due("a hundred days", v.pass(100), 0);
        due.due("the day", v.count(1), 108);
        due.due("sun 0 fades nothing", v.varnish(0, 2, 0), 8);
        due.due("each is a change", v.undo(), 5);
        due.due("undone", v.count(1), 8);
    }

    private static void passThroughLayers(Due due) {
        VarnishPrices v = new VarnishPrices();
        v.sun(0, 5);
        v.paste(0, 0, 1, 1, 10, 7);
        v.paste(0, 0, 1, 1, 20, 6);
        v.paste(0, 0, 1, 1, 30, 99);
        v.scrape(0, 0, 99);
        due.due("a day", v.pass(1), 0);
        due.due("a seen cell fades", v.varnish(1, 0, 0), 1);
        due.due("one more", v.pass(1), 1);
        due.due("what the sun leaves over fades nothing below", v.varnish(0, 0, 0), 7);
        due.due("two more", v.pass(2), 1);
        due.due("bare", v.count(2), 0);
        for (int i = 0; i < 3; i++) {
            v.undo();
        }
        due.due("all of them at once", v.pass(3), 1);
        due.due("what is left", v.varnish(0, 0, 0), 2);
        VarnishPrices wide = new VarnishPrices();
        wide.paste(0, 0, 10, 6, 5, 100 - 1);
        wide.paste(0, 0, 10, 6, 6, 1);
        due.due("a hundred days clear both", wide.pass(100), 120);
    }

    private static void passRefused(Due due) {
        for (int days : new int[] {0, 101, -1, Integer.MAX_VALUE, Integer.MIN_VALUE}) {
            due.unchanged("pass " + days, THREE, v -> v.pass(days), VarnishPrices.BAD_VALUE);
        }
        Consumer<VarnishPrices> late = v -> {
            for (int i = 0; i < 99; i++) {
                v.pass(100);
            }
            v.paste(0, 0, 1, 1, 5, 99);
        };
        due.unchanged("pass to the day 10000", late, v -> v.pass(100), VarnishPrices.TOO_MANY);
        due.unchanged("pass of 101 days, late", late, v -> v.pass(101), VarnishPrices.BAD_VALUE);
        VarnishPrices v = Dump.made(late);
        due.due("what some days would bring has no last day", v.ifPassed(100, 0), 1);
        due.due("pass to the day 9999", v.pass(99), 1);
        due.due("the day", v.count(1), 9999);
        due.due("one day more", v.pass(1), VarnishPrices.TOO_MANY);
        due.due("it would not fade", v.ifPassed(1, 0), 0);
        due.due("the day stays", v.count(1), 9999);
    }
}
