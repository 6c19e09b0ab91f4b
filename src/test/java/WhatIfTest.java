import java.util.function.Consumer;

/** Promises 15 to 19: what if. */
public final class WhatIfTest {
    private static final int[] WILD = {-1, Integer.MAX_VALUE, Integer.MIN_VALUE};
    private static final Consumer<VarnishPrices> STACK = v -> {
        v.sun(1, 3);
        v.sun(2, 0);
        v.paste(0, 0, 3, 1, 10, 10);
        v.paste(0, 0, 3, 1, 10, 4);
        v.paste(0, 0, 3, 1, 25, 7);
    };

    private WhatIfTest() { }

    public static void main(String[] args) {
        Due due = new Due();
        ifPassed(due);
        willShow(due);
        nextChange(due);
        nextChangeAtTheLimit(due);
        comesToLight(due);
        comesToLightAtTheLimit(due);
        bestTorn(due);
        nothingChanges(due);
        due.end();
    }

    private static void ifPassed(Due due) {
        VarnishPrices v = Dump.made(STACK);
        // Column 0 clears behind 7, 11 and 21 days, column 1 behind 3, 5 and 9, column 2 never.
        int[][] want = {{1, 0, 0, 75}, {2, 0, 0, 75}, {3, 1, 1, 60}, {5, 2, 1, 60}, {7, 3, 2, 45}, {9, 4, 2, 35},
            {11, 5, 2, 35}, {20, 5, 2, 35}, {21, 6, 2, 25}, {100, 6, 2, 25}};
        for (int[] row : want) {
            for (int what = 0; what < 3; what++) {
                due.due("ifPassed(" + row[0] + ", " + what + ")", v.ifPassed(row[0], what), row[what + 1]);
            }
        }
        v.tear(2);
        due.due("another poster of the same price is no other price", v.ifPassed(4, 1), 0);
        due.due("but a cell has become clear", v.ifPassed(4, 0), 2);
        VarnishPrices bare = new VarnishPrices();
        for (int what = 0; what < 3; what++) {
            due.due("ifPassed of a bare wall", bare.ifPassed(100, what), 0);
        }
        for (int days : new int[] {0, 101, -1, Integer.MAX_VALUE, Integer.MIN_VALUE}) {
            due.due("ifPassed(" + days + ")", v.ifPassed(days, 0), VarnishPrices.BAD_VALUE);
        }
        due.due("ifPassed what 3", v.ifPassed(1, 3), VarnishPrices.BAD_VALUE);
        for (int what : WILD) {
            due.due("ifPassed what " + what, v.ifPassed(1, what), VarnishPrices.BAD_VALUE);
        }
        VarnishPrices passed = Dump.made(STACK);
        due.due("as it would be", passed.pass(9), 4);
        due.due("the sum", passed.count(5), 35);
    }

    private static void willShow(Due due) {
        VarnishPrices v = Dump.made(STACK);
        int[][] want = {{0, 1, 25}, {0, 6, 25}, {0, 7, 10}, {0, 11, 10}, {0, 20, 10}, {0, 21, VarnishPrices.NONE},
            {0, 200, VarnishPrices.NONE}, {1, 2, 25}, {1, 3, 10}, {1, 8, 10}, {1, 9, VarnishPrices.NONE}, {2, 1, 25},
            {2, 200, 25}, {3, 1, VarnishPrices.NONE}};
        for (int[] row : want) {
            due.due("willShow(" + row[0] + ", 0, " + row[1] + ")", v.willShow(row[0], 0, row[1]), row[2]);
        }
        int[][] places = {{-1, 0}, {10, 0}, {0, -1}, {0, 6}, {Integer.MAX_VALUE, 0}, {0, Integer.MIN_VALUE}};
        for (int[] at : places) {
            due.due("willShow at " + at[0] + " " + at[1], v.willShow(at[0], at[1], 1), VarnishPrices.NO_SUCH);
            due.due("willShow at once at " + at[0], v.willShow(at[0], at[1], 0), VarnishPrices.NO_SUCH);
        }
        for (int days : new int[] {0, 201, -1, Integer.MAX_VALUE, Integer.MIN_VALUE}) {
            due.due("willShow behind " + days, v.willShow(0, 0, days), VarnishPrices.BAD_VALUE);
        }
    }

    private static void nextChange(Due due) {
        VarnishPrices v = Dump.made(STACK);
        due.due("column 1 is the first", v.nextChange(), 3);
        v.sun(1, 0);
        due.due("then column 0", v.nextChange(), 7);
        v.tear(2);
        due.due("10 below 10 is no other price", v.nextChange(), 14);
        v.sun(0, 0);
        due.due("no sun", v.nextChange(), VarnishPrices.NONE);
        due.due("a bare wall", new VarnishPrices().nextChange(), VarnishPrices.NONE);
        VarnishPrices clear = new VarnishPrices();
        clear.paste(5, 5, 1, 1, 8, 3);
        clear.paste(5, 5, 1, 1, 9, 3);
        clear.scrape(5, 5, 3);
        due.due("a clear cell above", clear.nextChange(), 3);
        VarnishPrices thin = new VarnishPrices();
        thin.paste(0, 0, 1, 1, 8, 1);
        thin.paste(0, 0, 1, 1, 9, 1);
        thin.paste(0, 0, 1, 1, 9, 1);
        due.due("another price with a varnish of 1", thin.nextChange(), 2);
        clear.scrape(5, 5, 3);
        due.due("nothing is shown", clear.nextChange(), VarnishPrices.NONE);
    }

    private static void nextChangeAtTheLimit(Due due) {
        VarnishPrices v = new VarnishPrices();
        v.paste(0, 0, 1, 1, 8, 3);
        for (int i = 0; i < 3; i++) {
            v.paste(0, 0, 1, 1, 8, 99);
        }
        due.due("300 days", v.nextChange(), 300);
        v.paste(0, 0, 1, 1, 8, 1);
        due.due("301 days", v.nextChange(), VarnishPrices.NONE);
        v.pass(1);
        due.due("300 days again", v.nextChange(), 300);
        v.pass(100);
        due.due("200 days", v.nextChange(), 200);
        due.due("it does show then", v.willShow(0, 0, 199), 8);
        due.due("none", v.willShow(0, 0, 200), VarnishPrices.NONE);
    }

    private static void comesToLight(Due due) {
        VarnishPrices v = Dump.made(STACK);
        due.due("the highest one is seen", v.comesToLight(2), 0);
        due.due("the middle one, by column 1", v.comesToLight(1), 3);
        due.due("the lowest one, by column 1", v.comesToLight(0), 5);
        v.scrape(1, 0, 18);
        due.due("the middle one, by column 0", v.comesToLight(1), 7);
        due.due("the lowest one is seen", v.comesToLight(0), 0);
        v.scrape(1, 0, 3);
        due.due("a clear cell isn't seen", v.comesToLight(0), 11);
        v.sun(0, 0);
        due.due("no sun", v.comesToLight(0), VarnishPrices.NONE);
        for (int poster : new int[] {3, 12, -1, Integer.MAX_VALUE, Integer.MIN_VALUE}) {
            due.due("comesToLight(" + poster + ")", v.comesToLight(poster), VarnishPrices.NO_SUCH);
        }
        VarnishPrices torn = Dump.made(STACK);
        torn.tear(2);
        due.due("a torn one hides nothing", torn.comesToLight(0), 2);
        torn.tear(1);
        due.due("nor do two", torn.comesToLight(0), 0);
        VarnishPrices full = new VarnishPrices();
        for (int i = 0; i < 12; i++) {
            full.paste(0, 0, 1, 1, 5, 4);
        }
        due.due("twelve of them", full.comesToLight(0), 44);
        due.due("the highest of twelve", full.comesToLight(11), 0);
        VarnishPrices clear = new VarnishPrices();
        due.due("no poster", clear.comesToLight(0), VarnishPrices.NO_SUCH);
        clear.paste(0, 0, 1, 1, 1, 1);
        clear.pass(1);
        due.due("it is clear for ever", clear.comesToLight(0), VarnishPrices.NONE);
        VarnishPrices both = new VarnishPrices();
        both.paste(0, 0, 2, 1, 1, 9);
        both.paste(0, 0, 1, 1, 2, 9);
        due.due("one of its cells is seen", both.comesToLight(0), 0);
    }

    private static void comesToLightAtTheLimit(Due due) {
        VarnishPrices v = new VarnishPrices();
        v.paste(9, 5, 1, 1, 8, 3);
        for (int i = 0; i < 3; i++) {
            v.paste(9, 5, 1, 1, 8, 99);
        }
        v.paste(9, 5, 1, 1, 8, 3);
        due.due("300 days", v.comesToLight(0), 300);
        v.coat(4, 1);
        due.due("301 days", v.comesToLight(0), VarnishPrices.NONE);
        due.due("202 days", v.comesToLight(1), 202);
        v.sun(9, 9);
        due.due("a last day is a whole one", v.comesToLight(0), 34);
    }

    private static void bestTorn(Due due) {
        VarnishPrices v = new VarnishPrices();
        for (int what = 0; what < 2; what++) {
            due.due("bestTorn of a bare wall", v.bestTorn(what), VarnishPrices.NONE);
        }
        v.paste(0, 0, 4, 1, 40, 9);
        due.due("the only one", v.bestTorn(0), 0);
        due.due("nothing is left", v.bestTorn(1), 0);
        v.paste(0, 0, 3, 1, 15, 9);
        v.paste(0, 0, 2, 1, 35, 9);
        due.due("the middle one", v.bestTorn(0), 1);
        due.due("the sum then", v.bestTorn(1), 35 + 35 + 40 + 40);
        v.paste(3, 0, 1, 1, 15, 9);
        due.due("of several the lowest one", v.bestTorn(0), 1);
        due.due("the sum then", v.bestTorn(1), 35 + 35 + 40 + 15);
        v.scrape(0, 0, 9);
        due.due("what is clear hides nothing", v.bestTorn(1), 40 + 35 + 40 + 15);
        v.tear(1);
        due.due("torn as it said", v.count(5), 40 + 35 + 40 + 15);
        for (int what : new int[] {2, -1, Integer.MAX_VALUE, Integer.MIN_VALUE}) {
            due.due("bestTorn(" + what + ")", v.bestTorn(what), VarnishPrices.BAD_VALUE);
            due.due("bestTorn(" + what + ") of a bare wall", new VarnishPrices().bestTorn(what),
                    VarnishPrices.BAD_VALUE);
        }
        VarnishPrices clear = new VarnishPrices();
        clear.paste(0, 0, 1, 1, 5, 1);
        clear.paste(0, 0, 1, 1, 5, 1);
        clear.pass(2);
        due.due("all clear: the lowest one", clear.bestTorn(0), 0);
        due.due("all clear: no sum", clear.bestTorn(1), 0);
        VarnishPrices whole = new VarnishPrices();
        whole.paste(0, 0, 10, 6, 999, 99);
        whole.paste(0, 0, 10, 6, 1, 99);
        due.due("the greatest sum", whole.bestTorn(1), 59940);
    }

    private static void nothingChanges(Due due) {
        due.unchanged("ifPassed", STACK, v -> v.ifPassed(21, 0), 6);
        due.unchanged("willShow", STACK, v -> v.willShow(0, 0, 200), VarnishPrices.NONE);
        due.unchanged("nextChange", STACK, VarnishPrices::nextChange, 3);
        due.unchanged("comesToLight", STACK, v -> v.comesToLight(0), 5);
        due.unchanged("bestTorn", STACK, v -> v.bestTorn(0), 0);
        due.unchanged("ifPassed, wrong", STACK, v -> v.ifPassed(0, 3), VarnishPrices.BAD_VALUE);
        due.unchanged("willShow, wrong", STACK, v -> v.willShow(0, 6, 201), VarnishPrices.NO_SUCH);
    }
}
