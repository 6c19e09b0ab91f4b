import java.util.function.Consumer;
import java.util.function.ToLongFunction;

/**
 * The sentences of the promises 20 to 25 that name a boundary, one after the other, each with calls at the boundary
 * and just beyond it.
 */
public final class PadAndPastSentencesTest {
    private static final int CODE_BITS = 8;
    private static final Consumer<VarnishPrices> SOME = v -> Due.write(v, "00:5");

    private final Due due = new Due();

    private PadAndPastSentencesTest() { }

    public static void main(String[] args) {
        PadAndPastSentencesTest test = new PadAndPastSentencesTest();
        test.putOrder();
        test.putOneToEight();
        test.putNone();
        test.putCodes();
        test.putBitsAbove();
        test.putLength();
        test.wipe();
        test.fault();
        test.undoKeeps();
        test.undoSix();
        test.undoRecords();
        test.undoRecordsNothing();
        test.undoBuyer();
        test.undoNone();
        test.undoOverAgain();
        test.save();
        test.saveKeepsAll();
        test.saveRefused();
        test.restore();
        test.restoreIsChange();
        test.restoreRefused();
        test.due.end();
    }

    private void putOrder() {
        due.sentence("20: its lowest 8 bits are the last character, the next 8 bits the one before, and so on");
        String text = "95:999;8";
        for (int last = 1; last <= text.length(); last++) {
            boolean whole = last >= 4 && last <= 6;
            VarnishPrices v = new VarnishPrices();
            v.paste(9, 5, 1, 1, 9, 9);
            due.due("put " + text.substring(0, last), v.put(Due.chars(text.substring(0, last))), last);
            due.due("its fault", v.fault(), whole ? Due.NONE : last);
            due.due("its buyer pays", v.buyAll(), whole ? 1 : Due.BAD_TEXT);
        }
        for (int at = 0; at < 8; at++) {
            VarnishPrices v = new VarnishPrices();
            StringBuilder faulty = new StringBuilder("00:1;00:");
            faulty.setCharAt(at, '!');
            v.put(Due.chars(faulty.toString()));
            due.due("fault of " + faulty, v.fault(), at);
        }
        VarnishPrices parts = new VarnishPrices();
        due.due("a first part", parts.put('4'), 1);
        due.due("a part behind it", parts.put(Due.chars("5:")), 3);
        due.due("a last part", parts.put('6'), 4);
        due.due("the whole", parts.fault(), Due.NONE);
        due.due("no change is recorded", parts.count(11), 0);
    }

    private void putOneToEight() {
        due.sentence("20: characters: 1 to 8 characters");
        for (int characters = 1; characters <= 8; characters++) {
            due.due(characters + " characters", new VarnishPrices().put(Due.chars("~".repeat(characters))), characters);
            due.due(characters + " of the least code", new VarnishPrices().put(Due.chars("!".repeat(characters))),
                    characters);
        }
    }

    private void putNone() {
        due.sentence("20: BAD_VALUE if there is no character");
        due.unchanged("put(0)", SOME, v -> v.put(0), Due.BAD_VALUE);
        due.unchanged("put(0) on an empty pad", Walls.BARE, v -> v.put(0), Due.BAD_VALUE);
        due.unchanged("no last character", SOME, v -> v.put((long) '0' << CODE_BITS), Due.BAD_VALUE);
        due.unchanged("none but the first of eight", SOME, v -> v.put((long) '0' << 7 * CODE_BITS), Due.BAD_VALUE);
        due.unchanged("none but a bit", SOME, v -> v.put(Long.MIN_VALUE), Due.BAD_VALUE);
    }

    private void putCodes() {
        due.sentence("20: BAD_VALUE if .. a code is not 33 to 126");
        for (int characters = 1; characters <= 8; characters++) {
            for (int at = 0; at < characters; at++) {
                for (long code = 1; code <= 255; code++) {
                    long others = Due.chars("0".repeat(characters)) & ~(255L << at * CODE_BITS);
                    long number = others | code << at * CODE_BITS;
                    VarnishPrices v = new VarnishPrices();
                    boolean good = code >= 33 && code <= 126;
                    due.due("the code " + code + " as one of " + characters, v.put(number),
                            good ? characters : Due.BAD_VALUE);
                    due.due("the length then", v.count(10), good ? characters : 0);
                }
            }
        }
        for (long number : new long[] {32, 127, 1, 128, 255, -1, Long.MAX_VALUE, Long.MIN_VALUE, 0xff30303030303030L}) {
            due.unchanged("put(" + number + ")", SOME, v -> v.put(number), Due.BAD_VALUE);
        }
    }

    private void putBitsAbove() {
        due.sentence("20: BAD_VALUE if .. a bit above 8 bits that are 0 is not 0");
        for (int characters = 1; characters <= 6; characters++) {
            long number = Due.chars("0".repeat(characters));
            for (int bit = (characters + 1) * CODE_BITS; bit < 64; bit++) {
                due.due("the bit " + bit + " above " + characters, new VarnishPrices().put(number | 1L << bit),
                        Due.BAD_VALUE);
            }
            long gap = (number & 255) | number >>> CODE_BITS << 2 * CODE_BITS;
            due.due("a gap in " + characters, new VarnishPrices().put(gap), characters == 1 ? 1 : Due.BAD_VALUE);
        }
        due.unchanged("the highest bit above seven", SOME, v -> v.put(Due.chars("0000000") | Long.MIN_VALUE),
                Due.BAD_VALUE);
        due.unchanged("the highest bit above one", SOME, v -> v.put('0' | Long.MIN_VALUE), Due.BAD_VALUE);
        due.unchanged("a character above a gap", SOME, v -> v.put('0' | (long) '0' << 2 * CODE_BITS), Due.BAD_VALUE);
    }

    private void putLength() {
        due.sentence("20: Returns the length of the pad then .. TOO_MANY if the pad would be longer than 60");
        VarnishPrices v = new VarnishPrices();
        for (int puts = 1; puts <= 7; puts++) {
            due.due("eight more", v.put(Due.chars("~~~~~~~~")), puts * 8);
        }
        due.due("eight behind 56", v.put(Due.chars("~~~~~~~~")), Due.TOO_MANY);
        due.due("five behind 56", v.put(Due.chars("~~~~~")), Due.TOO_MANY);
        due.due("its length", v.count(10), 56);
        due.due("four behind 56", v.put(Due.chars("~~~~")), 60);
        due.due("one behind 60", v.put('~'), Due.TOO_MANY);
        due.due("its length", v.wipe(), 60);
        due.due("one behind none", v.put('~'), 1);
    }

    private void wipe() {
        due.sentence("21: Empties the pad, and returns the length that it had.");
        for (int length = 0; length <= 60; length++) {
            VarnishPrices v = new VarnishPrices();
            Due.write(v, "7".repeat(length));
            due.due("wipe of " + length, v.wipe(), length);
            due.due("the length then", v.count(10), 0);
            due.due("wipe again", v.wipe(), 0);
            due.due("its fault", v.fault(), 0);
        }
        due.unchanged("wipe of an empty pad", Walls.onePoster(5), VarnishPrices::wipe, 0);
        VarnishPrices v = Dump.made(SOME);
        v.wipe();
        due.due("it is no change", v.undo(), Due.NOT_POSSIBLE);
    }

    private void fault() {
        due.sentence("22: Returns the fault of the pad, NONE if there is none.");
        due.unchanged("an empty pad", Walls.BARE, VarnishPrices::fault, 0);
        due.unchanged("a buyer", SOME, VarnishPrices::fault, Due.NONE);
        due.unchanged("a purse of 999", v -> Due.write(v, "00:999"), VarnishPrices::fault, Due.NONE);
        due.unchanged("a purse of 1000", v -> Due.write(v, "00:1000"), VarnishPrices::fault, 6);
        due.unchanged("a full pad", Walls.FULL, VarnishPrices::fault, 59);
        VarnishPrices v = Dump.made(SOME);
        v.put(';');
        due.due("it ends too early then", v.fault(), 5);
        v.put(Due.chars("00:0"));
        due.due("and is whole again", v.fault(), Due.NONE);
    }

    private void undoKeeps() {
        due.sentence("23: everything except the pad, the slots and the history is as it was before it");
        VarnishPrices v = new VarnishPrices();
        v.paste(0, 0, 2, 1, 9, 9);
        v.save(0);
        v.pass(3);
        v.save(1);
        v.put(Due.chars("00:9"));
        due.due("undo", v.undo(), 1);
        due.due("the day", v.count(1), 0);
        due.due("the varnish", v.varnish(0, 0, 0), 9);
        due.due("the pad keeps what was put behind the change", v.count(10), 4);
        due.due("the slot keeps what was saved behind it", v.restore(1), 1);
        due.due("its day", v.count(1), 3);
        due.due("the other slot", v.restore(0), 1);
        due.due("its day", v.count(1), 0);
        VarnishPrices first = new VarnishPrices();
        first.put('0');
        first.save(0);
        first.paste(0, 0, 1, 1, 1, 1);
        first.put('0');
        first.undo();
        due.due("the pad does not go back", first.count(10), 2);
        due.due("the bare wall is there again", first.count(0), 0);
        due.due("what was saved of it", first.restore(0), 0);
    }

    private void undoSix() {
        due.sentence("23: A history of at most 6 states is kept .. when one more is recorded, the oldest one is "
                + "dropped .. Returns how many changes can be undone then");
        for (int changes = 1; changes <= 40; changes++) {
            VarnishPrices v = new VarnishPrices();
            for (int day = 1; day <= changes; day++) {
                v.pass(1);
            }
            int most = Math.min(changes, 6);
            for (int back = 1; back <= most; back++) {
                due.due("undo " + back + " of " + changes, v.undo(), most - back);
                due.due("the day", v.count(1), changes - back);
            }
            due.due("one more", v.undo(), Due.NOT_POSSIBLE);
            due.due("the day stays", v.count(1), changes - most);
        }
    }

    /** The seventh change drops the oldest state, whichever change it is. */
    private void records(String call, ToLongFunction<VarnishPrices> change) {
        Consumer<VarnishPrices> six = v -> {
            v.paste(0, 0, 2, 1, 9, 9);
            v.paste(0, 0, 1, 1, 8, 9);
            v.save(0);
            v.pass(1);
            Due.write(v, "00:0");
            v.pass(1);
            v.pass(1);
        };
        VarnishPrices five = Dump.made(six);
        due.holds(call + " is no error", change.applyAsLong(five) >= 0);
        due.due(call + " records one", five.count(11), 6);
        due.due(call + " undone", five.undo(), 5);
        due.due("the day", five.count(1), 3);
        VarnishPrices full = Dump.made(six.andThen(v -> v.pass(1)));
        change.applyAsLong(full);
        due.due(call + " as the seventh", full.count(11), 6);
        for (int left = 5; left >= 0; left--) {
            due.due(call + ": undo", full.undo(), left);
        }
        due.due("the oldest is dropped", full.count(0), 1);
        due.due("no more", full.undo(), Due.NOT_POSSIBLE);
    }

    private void undoRecords() {
        due.sentence("23: each method that is a change, and returns no error, records the state before it (also if "
                + "nothing is different then)");
        records("paste", v -> v.paste(9, 5, 1, 1, 1, 1));
        records("tear", v -> v.tear(0));
        records("coat", v -> v.coat(0, 1));
        records("scrape", v -> v.scrape(0, 0, 1));
        records("sun", v -> v.sun(9, 9));
        records("the same sun", v -> v.sun(9, 1));
        records("buy", v -> v.buy(0, 0, 999));
        records("buyAll, nobody pays", VarnishPrices::buyAll);
        records("pass", v -> v.pass(100));
        records("restore", v -> v.restore(0));
        VarnishPrices same = Dump.made(Walls.onePoster(99));
        same.coat(0, 1);
        due.due("coat of 99", same.count(11), 2);
        same.save(0);
        same.restore(0);
        due.due("restore of what there is", same.count(11), 3);
        same.paste(0, 0, 1, 1, 1, 1);
        same.coat(0, 1);
        due.due("coat of a hidden one", same.count(11), 5);
    }

    private void undoRecordsNothing() {
        due.sentence("23: each method that is a change, and returns no error, records the state before it");
        VarnishPrices v = Dump.made(Walls.onePoster(9));
        v.paste(0, 0, 0, 1, 1, 1);
        v.paste(0, 0, 1, 1, 0, 1);
        v.tear(1);
        v.coat(1, 1);
        v.coat(0, 100);
        v.scrape(0, 6, 1);
        v.scrape(0, 0, 301);
        v.scrape(1, 0, 1);
        v.sun(10, 1);
        v.sun(0, 10);
        v.buy(0, 6, 1);
        v.buy(0, 0, 1000);
        v.buy(0, 0, 4);
        v.buyAll();
        v.pass(0);
        v.pass(101);
        v.restore(0);
        v.restore(2);
        due.due("behind errors", v.count(11), 1);
        v.cell(0, 0, 0);
        v.poster(0, 0);
        v.varnish(0, 0, 0);
        v.count(0);
        v.sunOf(0);
        v.ifPassed(1, 0);
        v.willShow(0, 0, 1);
        v.nextChange();
        v.comesToLight(0);
        v.bestTorn(0);
        v.put('0');
        v.wipe();
        v.fault();
        v.save(0);
        due.due("behind what is no change", v.count(11), 1);
        due.due("undo", v.undo(), 0);
        due.due("undo records nothing", v.count(11), 0);
        VarnishPrices full = Dump.made(Walls.PILE);
        full.paste(0, 0, 1, 1, 1, 1);
        for (int left = 5; left >= 0; left--) {
            due.due("undo", full.undo(), left);
        }
        due.due("an error drops no state", full.count(0), 6);
    }

    private void undoBuyer() {
        due.sentence("23: A buyer of a text records nothing.");
        VarnishPrices v = Dump.made(Walls.onePoster(9));
        v.pass(1);
        Due.write(v, "00:5;00:5;00:5;00:5;00:5;00:5;00:5;00:5;00:5;00:5;00:5;00:5");
        due.due("twelve pay", v.buyAll(), 12);
        due.due("one state", v.count(11), 3);
        due.due("undo", v.undo(), 2);
        due.due("none has paid", v.count(9), 0);
        due.due("undo", v.undo(), 1);
        due.due("the day", v.count(1), 0);
    }

    private void undoNone() {
        due.sentence("23: NOT_POSSIBLE if there is none.");
        due.unchanged("undo of a new object", Walls.BARE, VarnishPrices::undo, Due.NOT_POSSIBLE);
        due.unchanged("undo of what is no change", SOME.andThen(v -> v.save(0)), VarnishPrices::undo, Due.NOT_POSSIBLE);
        Consumer<VarnishPrices> back = Walls.onePoster(9).andThen(VarnishPrices::undo);
        due.unchanged("undo once more", back, VarnishPrices::undo, Due.NOT_POSSIBLE);
        due.due("a change then", Dump.made(back).pass(1), 0);
    }

    private void undoOverAgain() {
        due.sentence("23: Undoes the latest change");
        VarnishPrices v = new VarnishPrices();
        for (int round = 0; round < 50; round++) {
            v.paste(0, 0, 1, 1, 1 + round, 9);
            v.pass(2);
            due.due("undo of the days", v.undo(), 1);
            due.due("the varnish", v.varnish(0, 0, 0), 9);
            due.due("the price", v.cell(0, 0, 0), 1 + round);
            due.due("undo of the poster", v.undo(), 0);
            due.due("bare again", v.count(0), 0);
        }
        VarnishPrices sold = Dump.made(Walls.PILE);
        sold.buy(9, 5, 12);
        sold.buy(9, 5, 12);
        due.due("undo of a sale", sold.undo(), 5);
        due.due("sales of the poster", sold.poster(11, 8), 1);
        due.due("what they brought", sold.poster(11, 9), 12);
        due.due("all sales", sold.count(8), 1);
        due.due("what all brought", sold.count(9), 12);
        due.due("undo of the other sale", sold.undo(), 4);
        due.due("sales of the poster", sold.poster(11, 8), 0);
        due.due("what they brought", sold.poster(11, 9), 0);
        VarnishPrices torn = Dump.made(Walls.TWELVE);
        torn.tear(0);
        torn.paste(9, 5, 1, 1, 99, 9);
        torn.scrape(9, 5, 9);
        for (int back = 0; back < 3; back++) {
            torn.undo();
        }
        for (int number = 0; number < 12; number++) {
            due.due("poster " + number + " as it was", torn.poster(number, 4), number + 1);
            due.due("its varnish", torn.varnish(number, number % 10, number / 10), number + 1);
            due.due("not at another's place", torn.varnish(number, 9, 5), Due.NONE);
        }
    }

    private void save() {
        due.sentence("24: Saves everything except the pad, the history and the slots in a slot, and overwrites what "
                + "was saved there .. Returns how many posters there are");
        VarnishPrices v = new VarnishPrices();
        for (int posters = 0; posters <= 12; posters++) {
            due.due("save of " + posters, v.save(posters % 2), posters);
            due.due("its overwritten slot", v.restore(posters % 2), posters);
            due.due("one more", v.paste(0, 0, 1, 1, 1, 1), posters < 12 ? posters : Due.TOO_MANY);
        }
        due.due("the even slot", v.restore(0), 12);
        due.due("the odd slot", v.restore(1), 11);
        VarnishPrices less = Dump.made(Walls.PILE);
        less.save(1);
        less.tear(11);
        less.pass(1);
        due.due("fewer over more", less.save(1), 11);
        less.sun(0, 9);
        due.due("restored", less.restore(1), 11);
        due.due("their varnish", less.poster(10, 10), 0);
        due.due("their sun", less.sunOf(0), 1);
    }

    private void saveKeepsAll() {
        due.sentence("24: Saves everything except the pad, the history and the slots");
        VarnishPrices v = new VarnishPrices();
        v.paste(1, 1, 2, 2, 9, 9);
        v.sun(9, 9);
        v.buy(1, 1, 9);
        v.pass(1);
        v.put('0');
        v.save(0);
        int[] counts = new int[10];
        for (int what = 0; what < 10; what++) {
            counts[what] = v.count(what);
        }
        v.buy(1, 1, 9);
        v.sun(9, 0);
        v.sun(0, 3);
        v.pass(5);
        v.put(Due.chars("0:1"));
        v.restore(0);
        for (int what = 0; what < 10; what++) {
            due.due("count(" + what + ")", v.count(what), counts[what]);
        }
        due.due("the pad is not saved", v.count(10), 4);
        due.due("the history is not saved", v.count(11), 6);
        due.due("a sun", v.sunOf(9), 9);
        due.due("another sun", v.sunOf(0), 1);
        int[] poster = {1, 1, 2, 2, 9, 4, 0, 0, 1, 9, 32};
        for (int what = 0; what < poster.length; what++) {
            due.due("poster(0, " + what + ")", v.poster(0, what), poster[what]);
        }
        v.tear(0);
        v.paste(0, 0, 10, 6, 99, 99);
        v.restore(0);
        for (int what = 0; what < poster.length; what++) {
            due.due("poster(0, " + what + "), torn and restored", v.poster(0, what), poster[what]);
        }
    }

    private void saveRefused() {
        due.sentence("24: BAD_VALUE if there is no such slot .. slot: 0 or 1");
        due.range("slot", 0, 1, Walls.BARE, VarnishPrices::save, Due.BAD_VALUE);
        due.range("slot", 0, 1, Walls.FULL, VarnishPrices::save, Due.BAD_VALUE);
    }

    private void restore() {
        due.sentence("25: Restores what was saved last in a slot, which keeps it .. Returns how many posters there "
                + "are then");
        VarnishPrices v = Dump.made(Walls.TWELVE);
        v.save(0);
        for (int times = 0; times < 8; times++) {
            v.scrape(0, 0, 1);
            v.pass(3);
            v.tear(11);
            v.tear(0);
            v.paste(0, 0, 10, 6, 999, 99);
            due.due("restore", v.restore(0), 12);
            for (int number = 0; number < 12; number++) {
                due.due("varnish of " + number, v.poster(number, 10), number + 1);
            }
            due.due("the day", v.count(1), 0);
        }
        v.pass(1);
        v.save(0);
        v.pass(1);
        v.restore(0);
        due.due("what was saved last", v.count(1), 1);
        VarnishPrices bare = new VarnishPrices();
        bare.save(1);
        bare.paste(0, 0, 1, 1, 1, 1);
        due.due("restore of a bare wall", bare.restore(1), 0);
        due.due("it is bare", bare.count(2), 0);
    }

    private void restoreIsChange() {
        due.sentence("25: This is a change.");
        VarnishPrices v = new VarnishPrices();
        v.save(0);
        for (int changes = 1; changes <= 8; changes++) {
            v.restore(0);
            due.due("it records", v.count(11), Math.min(6, changes));
        }
        v.paste(0, 0, 1, 1, 7, 5);
        v.put('0');
        v.restore(0);
        due.due("the pad stays", v.count(10), 1);
        due.due("undo", v.undo(), 5);
        due.due("the poster is there again", v.cell(0, 0, 0), 7);
        due.due("the pad stays", v.count(10), 1);
        due.due("the slot is kept, too", v.restore(0), 0);
    }

    private void restoreRefused() {
        due.sentence("25: BAD_VALUE if there is no such slot; NOT_POSSIBLE if nothing was saved in it .. slot: 0 or "
                + "1");
        Consumer<VarnishPrices> both = v -> {
            v.save(0);
            v.save(1);
        };
        due.range("slot", 0, 1, both, VarnishPrices::restore, Due.BAD_VALUE);
        for (int slot = 0; slot < 2; slot++) {
            int empty = slot;
            due.unchanged("restore(" + slot + ") of nothing", Walls.BARE, v -> v.restore(empty), Due.NOT_POSSIBLE);
            Consumer<VarnishPrices> other = Walls.TWELVE.andThen(v -> v.save(1 - empty));
            due.unchanged("restore(" + slot + "), the other has some", other, v -> v.restore(empty), Due.NOT_POSSIBLE);
            due.due("restore of the other", Dump.made(other).restore(1 - empty), 12);
            Consumer<VarnishPrices> undone = Walls.onePoster(9).andThen(v -> v.save(empty))
                    .andThen(VarnishPrices::undo);
            due.due("what was saved before an undo is saved", Dump.made(undone).restore(empty), 1);
        }
        due.unchanged("no slot, and nothing saved", Walls.BARE, v -> v.restore(2), Due.BAD_VALUE);
        due.unchanged("no slot below", Walls.BARE, v -> v.restore(-1), Due.BAD_VALUE);
    }
}
