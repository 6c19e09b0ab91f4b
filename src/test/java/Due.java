import java.util.function.Consumer;
import java.util.function.ToLongFunction;

/** Counts answers that are not the ones that are due; a test ends by end(). */
final class Due {
    private int right = 0;
    private int wrong = 0;

    void due(String call, long got, long want) {
        if (got == want) {
            right++;
        } else {
            wrong++;
            System.out.println(call + " answered " + got + ", due is " + want);
        }
    }

    void same(String what, String got, String want) {
        if (got.equals(want)) {
            right++;
        } else {
            wrong++;
            System.out.println(what + ": is\n" + got + "due is\n" + want);
        }
    }

    void holds(String what, boolean so) {
        if (so) {
            right++;
        } else {
            wrong++;
            System.out.println("does not hold: " + what);
        }
    }

    /** The call behind the setup is due to answer the number, and to change nothing. */
    void unchanged(String call, Consumer<VarnishPrices> setup, ToLongFunction<VarnishPrices> asked, long want) {
        VarnishPrices prices = Dump.made(setup);
        due(call, asked.applyAsLong(prices), want);
        same("what there is behind " + call, Dump.of(setup.andThen(asked::applyAsLong)), Dump.of(setup));
    }

    void end() {
        System.out.println(right + " right, " + wrong + " wrong");
        if (wrong > 0 || right == 0) {
            System.exit(1);
        }
    }

    /** Characters as the pad takes them. */
    static long chars(String text) {
        long number = 0;
        for (int i = 0; i < text.length(); i++) {
            number = number << 8 | text.charAt(i);
        }
        return number;
    }

    /** Writes a text of any length on the pad. */
    static void write(VarnishPrices prices, String text) {
        for (int from = 0; from < text.length(); from += 8) {
            prices.put(chars(text.substring(from, Math.min(text.length(), from + 8))));
        }
    }
}
