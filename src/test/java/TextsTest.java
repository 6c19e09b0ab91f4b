import java.util.function.Consumer;

/** Promises 20 to 22: the pad. */
public final class TextsTest {
    private static final String SIXTY = "00:999;10:999;20:999;30:999;40:999;50:999;60:999;70:999;8055";

    private TextsTest() { }

    public static void main(String[] args) {
        Due due = new Due();
        put(due);
        putRefused(due);
        putTooMuch(due);
        wipe(due);
        fault(due);
        due.end();
    }

    private static void put(Due due) {
        VarnishPrices v = new VarnishPrices();
        due.due("one character", v.put('0'), 1);
        due.due("its fault", v.fault(), 1);
        due.due("two", v.put(Due.chars("0:")), 3);
        due.due("eight", v.put(Due.chars("12;34:56")), 11);
        due.due("in their order", v.fault(), VarnishPrices.NONE);
        due.due("the least code", v.put(33), 12);
        due.due("its fault", v.fault(), 11);
        due.due("the greatest code", v.put(126), 13);
        due.due("eight of the greatest code", v.put(Due.chars("~~~~~~~~")), 21);
        due.due("no change is recorded", v.count(11), 0);
        VarnishPrices order = new VarnishPrices();
        order.paste(1, 2, 1, 1, 7, 5);
        order.put(Due.chars("12:7"));
        due.due("the lowest bits are the last character", order.buyAll(), 1);
    }

    private static void putRefused(Due due) {
        long[] bad = {0, 32, 127, 128, 255, 1, -1, Long.MIN_VALUE, Long.MAX_VALUE, 0x100, 0x3000, 0x300030L,
            0x3030303030303020L, 0x2030303030303030L, 0x7f30303030303030L, 0x8030303030303030L, 0xb030303030303030L,
            0x30303030_00303030L, 0x01000000_00000030L, 0x3030303030303000L, 0x0030303030303080L};
        Consumer<VarnishPrices> some = v -> Due.write(v, "00:5");
        for (long characters : bad) {
            due.unchanged("put " + Long.toHexString(characters), some, v -> v.put(characters),
                    VarnishPrices.BAD_VALUE);
        }
    }

    private static void putTooMuch(Due due) {
        Consumer<VarnishPrices> full = v -> Due.write(v, SIXTY);
        due.due("sixty characters", Dump.made(full).count(10), 60);
        due.unchanged("one more", full, v -> v.put('0'), VarnishPrices.TOO_MANY);
        due.unchanged("eight more", full, v -> v.put(Due.chars("00000000")), VarnishPrices.TOO_MANY);
        due.unchanged("a bad one more", full, v -> v.put(32), VarnishPrices.BAD_VALUE);
        due.unchanged("no one more", full, v -> v.put(0), VarnishPrices.BAD_VALUE);
        Consumer<VarnishPrices> nearly = v -> Due.write(v, SIXTY.substring(0, 58));
        due.unchanged("three behind 58", nearly, v -> v.put(Due.chars("000")), VarnishPrices.TOO_MANY);
        due.due("two behind 58", Dump.made(nearly).put(Due.chars("00")), 60);
    }

    private static void wipe(Due due) {
        VarnishPrices v = new VarnishPrices();
        due.due("an empty pad", v.wipe(), 0);
        Due.write(v, SIXTY);
        due.due("a full pad", v.wipe(), 60);
        due.due("it is empty", v.count(10), 0);
        due.due("it has its fault at 0", v.fault(), 0);
        due.due("no change is recorded", v.count(11), 0);
        due.due("a new text", v.put(Due.chars("00:1")), 4);
        due.due("nothing is left of the old one", v.fault(), VarnishPrices.NONE);
        Consumer<VarnishPrices> wall = w -> w.paste(0, 0, 1, 1, 1, 1);
        due.unchanged("wipe of an empty pad", wall, VarnishPrices::wipe, 0);
    }

    private static void faultIs(Due due, String text, int want) {
        VarnishPrices v = new VarnishPrices();
        Due.write(v, text);
        due.due("fault of " + text, v.fault(), want);
    }

    private static void fault(Due due) {
        for (String text : new String[] {"00:0", "95:999", "00:1", "00:10", "05:100", "00:0;00:0"}) {
            faultIs(due, text, VarnishPrices.NONE);
        }
        faultIs(due, "12:34;55:0;91:900", VarnishPrices.NONE);
        faultIs(due, "", 0);
        // What cannot stand at its place.
        faultIs(due, ":", 0);
        faultIs(due, ";", 0);
        faultIs(due, "/0:0", 0);
        faultIs(due, "a0:0", 0);
        faultIs(due, "06:0", 1);
        faultIs(due, "09:0", 1);
        faultIs(due, "0/:0", 1);
        faultIs(due, "0::0", 1);
        faultIs(due, "000:0", 2);
        faultIs(due, "00;0", 2);
        faultIs(due, "00::", 3);
        faultIs(due, "00:;", 3);
        faultIs(due, "00:-", 3);
        faultIs(due, "00:00", 4);
        faultIs(due, "00:01", 4);
        faultIs(due, "00:0:", 4);
        faultIs(due, "00:1000", 6);
        faultIs(due, "00:1001", 6);
        faultIs(due, "00:9999", 6);
        faultIs(due, "00:99:", 5);
        faultIs(due, "00:99,", 5);
        faultIs(due, "00:9;;", 5);
        faultIs(due, "00:9;06:1", 6);
        faultIs(due, "00:9;05:07", 9);
        faultIs(due, "00:0;00:1234", 11);
        // What ends too early.
        faultIs(due, "0", 1);
        faultIs(due, "00", 2);
        faultIs(due, "00:", 3);
        faultIs(due, "00:0;", 5);
        faultIs(due, "00:0;0", 6);
        faultIs(due, "00:0;00", 7);
        faultIs(due, "00:0;00:", 8);
        // The first fault counts.
        faultIs(due, "0x:x", 1);
        // A full pad.
        faultIs(due, SIXTY, 58);
        faultIs(due, SIXTY.substring(0, 58) + ":9", VarnishPrices.NONE);
        faultIs(due, SIXTY.substring(0, 56) + "000;", 58);
        faultIs(due, SIXTY.substring(0, 55) + "9", 55);
        faultIs(due, SIXTY.substring(0, 49) + "70:9;80:99;", 60);
        for (char sign = 33; sign <= 126; sign++) {
            boolean isDigit = sign >= '0' && sign <= '9';
            faultIs(due, sign + "0:0", isDigit ? VarnishPrices.NONE : 0);
            faultIs(due, "0" + sign + ":0", sign >= '0' && sign <= '5' ? VarnishPrices.NONE : 1);
            faultIs(due, "00" + sign + "0", sign == ':' ? VarnishPrices.NONE : 2);
            faultIs(due, "00:" + sign, isDigit ? VarnishPrices.NONE : 3);
            faultIs(due, "00:0" + sign, sign == ';' ? 5 : 4);
            faultIs(due, "00:1" + sign, sign == ';' ? 5 : isDigit ? VarnishPrices.NONE : 4);
        }
        due.unchanged("fault", v -> Due.write(v, "00:1;"), VarnishPrices::fault, 5);
    }
}
