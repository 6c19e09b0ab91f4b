import java.util.function.Consumer;

/** Promises 10 to 14: what there is. */
public final class ViewsTest {
    private static final int[] WILD = {-1, Integer.MAX_VALUE, Integer.MIN_VALUE};
    /** The second poster is hidden at (1, 0) and clear at (2, 0); the third one is clear at (3, 0). */
    private static final Consumer<VarnishPrices> LAYERS = v -> {
        v.paste(0, 0, 4, 2, 30, 50);
        v.paste(1, 0, 2, 1, 30, 3);
        v.scrape(2, 0, 3);
        v.paste(3, 0, 2, 1, 45, 2);
        v.scrape(3, 0, 2);
        v.paste(1, 0, 1, 1, 80, 6);
    };

    private ViewsTest() { }

    public static void main(String[] args) {
        Due due = new Due();
        cell(due);
        poster(due);
        varnish(due);
        count(due);
        countOfSalesAndTexts(due);
        sunOf(due);
        nothingChanges(due);
        due.end();
    }

    private static void cellIs(Due due, int x, int y, int... want) {
        VarnishPrices v = Dump.made(LAYERS);
        for (int what = 0; what < want.length; what++) {
            due.due("cell(" + x + ", " + y + ", " + what + ")", v.cell(x, y, what), want[what]);
        }
    }

    private static void cell(Due due) {
        cellIs(due, 0, 0, 30, 0, 50, 1, 1);
        cellIs(due, 1, 0, 80, 3, 6, 3, 3);
        cellIs(due, 2, 0, 30, 0, 50, 2, 1);
        cellIs(due, 3, 0, 30, 0, 50, 2, 1);
        cellIs(due, 4, 0, 45, 2, 2, 1, 1);
        cellIs(due, 3, 1, 30, 0, 50, 1, 1);
        cellIs(due, 4, 1, VarnishPrices.NONE, VarnishPrices.NONE, 0, 0, 0);
        cellIs(due, 9, 5, VarnishPrices.NONE, VarnishPrices.NONE, 0, 0, 0);
        VarnishPrices v = Dump.made(LAYERS);
        v.scrape(4, 0, 2);
        due.due("a clear cell shows none", v.cell(4, 0, 0), VarnishPrices.NONE);
        due.due("none is seen there", v.cell(4, 0, 1), VarnishPrices.NONE);
        due.due("its varnish", v.cell(4, 0, 2), 0);
        due.due("it lies there", v.cell(4, 0, 3), 1);
        due.due("not clear", v.cell(4, 0, 4), 0);
        for (int what : new int[] {0, 4, 5, -1}) {
            due.due("cell(-1, 0)", v.cell(-1, 0, what), VarnishPrices.NO_SUCH);
            due.due("cell(10, 0)", v.cell(10, 0, what), VarnishPrices.NO_SUCH);
            due.due("cell(0, -1)", v.cell(0, -1, what), VarnishPrices.NO_SUCH);
            due.due("cell(0, 6)", v.cell(0, 6, what), VarnishPrices.NO_SUCH);
            due.due("cell(MAX, 0)", v.cell(Integer.MAX_VALUE, 0, what), VarnishPrices.NO_SUCH);
            due.due("cell(0, MIN)", v.cell(0, Integer.MIN_VALUE, what), VarnishPrices.NO_SUCH);
        }
        due.due("cell what 5", v.cell(0, 0, 5), VarnishPrices.BAD_VALUE);
        for (int what : WILD) {
            due.due("cell what " + what, v.cell(9, 5, what), VarnishPrices.BAD_VALUE);
        }
    }

    private static void posterIs(Due due, VarnishPrices v, int poster, int... want) {
        for (int what = 0; what < want.length; what++) {
            due.due("poster(" + poster + ", " + what + ")", v.poster(poster, what), want[what]);
        }
    }

    private static void poster(Due due) {
        VarnishPrices v = Dump.made(LAYERS);
        v.buy(2, 0, 99);
        v.buy(0, 1, 30);
        v.buy(4, 0, 45);
        posterIs(due, v, 0, 0, 0, 4, 2, 30, 7, 0, 1, 2, 60, 400);
        posterIs(due, v, 1, 1, 0, 2, 1, 30, 0, 1, 1, 0, 0, 3);
        posterIs(due, v, 2, 3, 0, 2, 1, 45, 1, 1, 0, 1, 45, 2);
        posterIs(due, v, 3, 1, 0, 1, 1, 80, 1, 0, 0, 0, 0, 6);
        v.paste(7, 2, 3, 4, 999, 99);
        posterIs(due, v, 4, 7, 2, 3, 4, 999, 12, 0, 0, 0, 0, 1188);
        for (int poster : new int[] {5, 12, -1, Integer.MAX_VALUE, Integer.MIN_VALUE}) {
            due.due("poster " + poster, v.poster(poster, 0), VarnishPrices.NO_SUCH);
            due.due("poster, what 11, " + poster, v.poster(poster, 11), VarnishPrices.NO_SUCH);
        }
        due.due("poster what 11", v.poster(0, 11), VarnishPrices.BAD_VALUE);
        for (int what : WILD) {
            due.due("poster what " + what, v.poster(0, what), VarnishPrices.BAD_VALUE);
        }
    }

    private static void varnish(Due due) {
        VarnishPrices v = Dump.made(LAYERS);
        due.due("varnish seen", v.varnish(0, 0, 0), 50);
        due.due("varnish hidden", v.varnish(0, 1, 0), 50);
        due.due("varnish of a clear cell", v.varnish(1, 2, 0), 0);
        due.due("left of it", v.varnish(1, 0, 0), VarnishPrices.NONE);
        due.due("right of it", v.varnish(1, 3, 0), VarnishPrices.NONE);
        due.due("below it", v.varnish(1, 1, 1), VarnishPrices.NONE);
        due.due("far off", v.varnish(3, 9, 5), VarnishPrices.NONE);
        for (int poster : new int[] {4, 12, -1, Integer.MAX_VALUE, Integer.MIN_VALUE}) {
            due.due("varnish of " + poster, v.varnish(poster, 0, 0), VarnishPrices.NO_SUCH);
        }
        int[][] places = {{-1, 0}, {10, 0}, {0, -1}, {0, 6}, {Integer.MAX_VALUE, 0}, {0, Integer.MIN_VALUE}};
        for (int[] at : places) {
            due.due("varnish at " + at[0] + " " + at[1], v.varnish(0, at[0], at[1]), VarnishPrices.NO_SUCH);
        }
    }

    private static void countsAre(Due due, String when, VarnishPrices v, int... want) {
        for (int what = 0; what < want.length; what++) {
            due.due(when + ": count(" + what + ")", v.count(what), want[what]);
        }
    }

    private static void count(Due due) {
        VarnishPrices v = Dump.made(LAYERS);
        countsAre(due, "layers", v, 4, 0, 9, 3, 80, 7 * 30 + 45 + 80, 1, 0, 0, 0, 0, 6);
        v.tear(3);
        countsAre(due, "one torn", v, 3, 0, 9, 2, 45, 8 * 30 + 45, 0, 0, 0, 0, 0, 6);
        v.scrape(1, 0, 3);
        countsAre(due, "one all clear", v, 3, 0, 9, 2, 45, 8 * 30 + 45, 1, 1, 0, 0, 0, 6);
        v.pass(50);
        countsAre(due, "all clear", v, 3, 50, 0, 0, VarnishPrices.NONE, 0, 3, 3, 0, 0, 0, 6);
        due.due("count(12)", v.count(12), VarnishPrices.BAD_VALUE);
        for (int what : WILD) {
            due.due("count(" + what + ")", v.count(what), VarnishPrices.BAD_VALUE);
        }
        VarnishPrices corner = new VarnishPrices();
        corner.paste(0, 0, 2, 1, 5, 1);
        corner.paste(0, 0, 1, 1, 6, 1);
        due.due("the greatest price, in the first corner", corner.count(4), 6);
        due.due("a varnish of 1 is not clear", corner.count(7), 0);
        due.due("two posters with a varnish of 1", corner.cell(0, 0, 4), 2);
        due.due("no cell of them is clear", corner.poster(0, 6), 0);
        corner.tear(0);
        corner.pass(1);
        due.due("all clear, the torn one is not counted", corner.count(7), 1);
        corner.paste(0, 0, 1, 1, 6, 1);
        corner.pass(1);
        corner.tear(1);
        due.due("nor is a torn one that was clear", corner.count(7), 1);
        due.due("nor is it among those unseen", corner.count(6), 1);
        VarnishPrices last = new VarnishPrices();
        last.paste(8, 5, 2, 1, 5, 1);
        last.paste(9, 5, 1, 1, 6, 1);
        due.due("the greatest price, in the last corner", last.count(4), 6);
        VarnishPrices alike = new VarnishPrices();
        alike.paste(0, 0, 1, 1, 5, 1);
        alike.paste(2, 0, 1, 1, 6, 1);
        alike.paste(4, 0, 1, 1, 5, 1);
        due.due("unlike prices, two of three posters alike", alike.count(3), 2);
        alike.paste(0, 0, 1, 1, 6, 1);
        due.due("unlike prices, the lower of the alike ones hidden", alike.count(3), 2);
        alike.paste(4, 0, 1, 1, 6, 1);
        due.due("unlike prices, both hidden", alike.count(3), 1);
    }

    private static void countOfSalesAndTexts(Due due) {
        VarnishPrices v = Dump.made(LAYERS);
        v.buy(4, 0, 999);
        v.buy(0, 0, 30);
        v.tear(2);
        due.due("sales, one of a torn poster", v.count(8), 2);
        due.due("what they brought", v.count(9), 75);
        Due.write(v, "00:30;99");
        due.due("the pad", v.count(10), 8);
        v.wipe();
        due.due("the pad wiped", v.count(10), 0);
        VarnishPrices changed = new VarnishPrices();
        for (int changes = 1; changes <= 8; changes++) {
            changed.pass(1);
            due.due("changes that can be undone", changed.count(11), Math.min(changes, 6));
        }
    }

    private static void sunOf(Due due) {
        VarnishPrices v = new VarnishPrices();
        for (int x = 0; x < 10; x++) {
            v.sun(x, 9 - x);
        }
        for (int x = 0; x < 10; x++) {
            due.due("sunOf(" + x + ")", v.sunOf(x), 9 - x);
        }
        for (int x : new int[] {-1, 10, Integer.MAX_VALUE, Integer.MIN_VALUE}) {
            due.due("sunOf(" + x + ")", v.sunOf(x), VarnishPrices.NO_SUCH);
        }
    }

    private static void nothingChanges(Due due) {
        due.unchanged("cell", LAYERS, v -> v.cell(1, 0, 4), 3);
        due.unchanged("poster", LAYERS, v -> v.poster(0, 5), 7);
        due.unchanged("varnish", LAYERS, v -> v.varnish(0, 0, 0), 50);
        due.unchanged("count", LAYERS, v -> v.count(3), 3);
        due.unchanged("sunOf", LAYERS, v -> v.sunOf(9), 1);
    }
}
