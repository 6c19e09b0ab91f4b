import java.util.function.Consumer;
import java.util.function.ToLongFunction;

/** Promises 23 to 25: undo, saving. */
public final class UndoAndSavingTest {
    private static final Consumer<VarnishPrices> WALL = v -> {
        v.paste(0, 0, 5, 5, 30, 9);
        v.paste(2, 2, 2, 2, 40, 5);
        v.sun(4, 7);
        v.buy(0, 0, 30);
        v.pass(2);
        Due.write(v, "00:30");
    };

    private UndoAndSavingTest() { }

    public static void main(String[] args) {
        Due due = new Due();
        undoOfEachChange(due);
        undoOfSix(due);
        undoKeepsPadAndSlots(due);
        recordsOnlyChanges(due);
        save(due);
        restore(due);
        restoreIsUndone(due);
        due.end();
    }

    /** WALL records five states, so that the history takes one more and drops none. */
    private static void undone(Due due, String name, ToLongFunction<VarnishPrices> change) {
        VarnishPrices before = Dump.made(WALL);
        int recorded = before.count(11);
        Consumer<VarnishPrices> back = WALL.andThen(change::applyAsLong).andThen(VarnishPrices::undo);
        due.same(name + " undone", wallOf(back), wallOf(WALL));
        VarnishPrices v = Dump.made(WALL);
        change.applyAsLong(v);
        due.due(name + " records", v.count(11), recorded + 1);
        due.due(name + ": undo", v.undo(), recorded);
    }

    /** All there is but the pad (count 10 and fault) and the slots. */
    private static String wallOf(Consumer<VarnishPrices> setup) {
        return Dump.of(setup.andThen(VarnishPrices::wipe));
    }

    private static void undoOfEachChange(Due due) {
        undone(due, "paste", v -> v.paste(0, 0, 10, 6, 1, 1));
        undone(due, "tear", v -> v.tear(0));
        undone(due, "tear of the upper one", v -> v.tear(1));
        undone(due, "coat", v -> v.coat(1, 50));
        undone(due, "scrape", v -> v.scrape(2, 2, 10));
        undone(due, "sun", v -> v.sun(4, 0));
        undone(due, "the same sun", v -> v.sun(4, 7));
        undone(due, "buy", v -> v.buy(2, 2, 999));
        undone(due, "buyAll", VarnishPrices::buyAll);
        undone(due, "pass", v -> v.pass(100));
    }

    private static void undoOfSix(Due due) {
        VarnishPrices v = new VarnishPrices();
        for (int price = 1; price <= 8; price++) {
            v.paste(0, 0, 1, 1, price, 1);
        }
        for (int left = 5; left >= 0; left--) {
            due.due("undo", v.undo(), left);
            due.due("the price then", v.cell(0, 0, 0), left + 2);
            due.due("what can be undone", v.count(11), left);
        }
        due.due("the oldest were dropped", v.undo(), VarnishPrices.NOT_POSSIBLE);
        due.due("two are left", v.count(0), 2);
        due.due("undo does not record", v.undo(), VarnishPrices.NOT_POSSIBLE);
        v.paste(0, 0, 1, 1, 99, 1);
        due.due("a new change", v.undo(), 0);
        due.due("two are left again", v.count(0), 2);
        due.unchanged("undo of a new object", w -> Due.write(w, "0"), VarnishPrices::undo, VarnishPrices.NOT_POSSIBLE);
        VarnishPrices mixed = new VarnishPrices();
        mixed.pass(1);
        mixed.pass(2);
        mixed.undo();
        mixed.pass(4);
        due.due("behind undo and a change", mixed.count(1), 5);
        due.due("undo", mixed.undo(), 1);
        due.due("the day", mixed.count(1), 1);
    }

    private static void undoKeepsPadAndSlots(Due due) {
        VarnishPrices v = Dump.made(WALL);
        v.save(0);
        v.pass(1);
        v.put(Due.chars(";00:31"));
        v.undo();
        due.due("the pad stays", v.count(10), 11);
        due.due("the slot stays", v.restore(0), 2);
        v.paste(0, 0, 1, 1, 1, 1);
        v.save(1);
        v.undo();
        due.due("a slot saved behind the change stays", v.restore(1), 3);
    }

    private static void recordsOnlyChanges(Due due) {
        VarnishPrices v = Dump.made(WALL);
        int recorded = v.count(11);
        v.save(0);
        v.put('0');
        v.wipe();
        v.fault();
        v.cell(0, 0, 0);
        v.poster(0, 0);
        v.varnish(0, 0, 0);
        v.sunOf(0);
        v.ifPassed(1, 0);
        v.willShow(0, 0, 1);
        v.nextChange();
        v.comesToLight(0);
        v.bestTorn(0);
        v.pass(0);
        v.restore(1);
        v.buyAll();
        v.buy(9, 5, 1);
        due.due("no change is recorded", v.count(11), recorded);
    }

    private static void save(Due due) {
        VarnishPrices v = Dump.made(WALL);
        due.due("save(0)", v.save(0), 2);
        v.tear(0);
        due.due("save(1)", v.save(1), 1);
        v.tear(0);
        due.due("restore(0)", v.restore(0), 2);
        due.due("restore(1)", v.restore(1), 1);
        due.due("save of another over it", v.save(0), 1);
        due.due("restore(0) then", v.restore(0), 1);
        due.due("save of a bare wall", new VarnishPrices().save(0), 0);
        for (int slot : new int[] {-1, 2, Integer.MAX_VALUE, Integer.MIN_VALUE}) {
            due.unchanged("save(" + slot + ")", WALL, w -> w.save(slot), VarnishPrices.BAD_VALUE);
        }
    }

    private static void restore(Due due) {
        Consumer<VarnishPrices> saved = WALL.andThen(v -> v.save(1));
        Consumer<VarnishPrices> changed = saved.andThen(v -> {
            v.paste(0, 0, 10, 6, 1, 99);
            v.tear(0);
            v.coat(0, 9);
            v.sun(0, 9);
            v.pass(7);
            v.buy(9, 5, 999);
        });
        VarnishPrices v = Dump.made(changed);
        int length = v.count(10);
        due.due("restore(1)", v.restore(1), 2);
        due.due("the pad stays", v.count(10), length);
        due.due("the day", v.count(1), 2);
        due.due("the sales", v.count(8), 1);
        due.due("what they brought", v.count(9), 30);
        due.due("the sun", v.sunOf(4), 7);
        due.due("another sun", v.sunOf(0), 1);
        due.due("the varnish", v.varnish(1, 2, 2), 3);
        due.due("the sales of a poster", v.poster(0, 8), 1);
        v.scrape(2, 2, 300);
        v.tear(0);
        due.due("the slot keeps it", v.restore(1), 2);
        due.due("as it was", v.varnish(1, 2, 2), 3);
        due.due("the other slot has nothing", v.restore(0), VarnishPrices.NOT_POSSIBLE);
        for (int slot : new int[] {-1, 2, Integer.MAX_VALUE, Integer.MIN_VALUE}) {
            due.unchanged("restore(" + slot + ")", saved, w -> w.restore(slot), VarnishPrices.BAD_VALUE);
        }
        due.unchanged("restore of nothing", saved, w -> w.restore(0), VarnishPrices.NOT_POSSIBLE);
        VarnishPrices bare = new VarnishPrices();
        bare.save(0);
        bare.paste(0, 0, 1, 1, 1, 1);
        due.due("restore of a bare wall", bare.restore(0), 0);
        due.due("it is bare", bare.count(2), 0);
    }

    private static void restoreIsUndone(Due due) {
        VarnishPrices v = new VarnishPrices();
        v.save(0);
        v.paste(0, 0, 1, 1, 5, 5);
        v.restore(0);
        due.due("restore records", v.count(11), 2);
        due.due("undo of restore", v.undo(), 1);
        due.due("the poster is there again", v.cell(0, 0, 0), 5);
        due.due("undo of paste", v.undo(), 0);
        due.due("bare", v.count(0), 0);
        v.restore(0);
        due.due("a restore that changes nothing records, too", v.count(11), 1);
    }
}
