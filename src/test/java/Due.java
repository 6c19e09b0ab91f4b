import java.util.function.Consumer;
import java.util.function.ToLongFunction;

/** Counts answers that are not the ones that are due; a test ends by end(). */
final class Due {
    static final int NO_SUCH = -1, BAD_VALUE = -2, BAD_TEXT = -3, TOO_MANY = -4, NOT_POSSIBLE = -5, NONE = -6;

    private int right = 0;
    private int wrong = 0;
    private String sentence = "";
    private int askedBefore = 0;

    /** A call with one number that is to be tried at the ends of its range. */
    interface Asked {
        int with(VarnishPrices prices, int number);
    }

    /** What is due from here on stands in this sentence of the document. */
    void sentence(String words) {
        endSentence();
        sentence = words;
    }

    private void endSentence() {
        if (!sentence.isEmpty() && right + wrong == askedBefore) {
            wrong("nothing is asked of it");
        }
        askedBefore = right + wrong;
    }

    private void wrong(String text) {
        wrong++;
        System.out.println((sentence.isEmpty() ? "" : "\"" + sentence + "\": ") + text);
    }

    void due(String call, long got, long want) {
        if (got == want) {
            right++;
        } else {
            wrong(call + " answered " + got + ", due is " + want);
        }
    }

    void same(String what, String got, String want) {
        if (got.equals(want)) {
            right++;
        } else {
            wrong(what + ": is\n" + got + "due is\n" + want);
        }
    }

    void holds(String what, boolean so) {
        if (so) {
            right++;
        } else {
            wrong("does not hold: " + what);
        }
    }

    /** Each number of the range is taken, and each beyond it refused, and then nothing changes. */
    void range(String call, int least, int most, Consumer<VarnishPrices> setup, Asked asked, int refusal) {
        for (int number = least; number <= most; number++) {
            int got = asked.with(Dump.made(setup), number);
            holds(call + " takes " + number + ", answered " + got, got >= 0 || got == NONE);
        }
        for (int number : new int[] {least - 1, most + 1, -1 - most, Integer.MIN_VALUE, Integer.MAX_VALUE}) {
            unchanged(call + " of " + number, setup, v -> asked.with(v, number), refusal);
        }
    }

    /** The call behind the setup is due to answer the number, and to change nothing. */
    void unchanged(String call, Consumer<VarnishPrices> setup, ToLongFunction<VarnishPrices> asked, long want) {
        VarnishPrices prices = Dump.made(setup);
        due(call, asked.applyAsLong(prices), want);
        same("what there is behind " + call, Dump.of(setup.andThen(asked::applyAsLong)), Dump.of(setup));
    }

    void end() {
        endSentence();
        System.out.println(right + " right, " + wrong + " wrong");
        if (wrong > 0 || right == 0) {
            System.exit(1);
        }
    }

    /** Characters as the pad takes them. */
    static long chars(String text) {
        long number = 0;
        for (int i = 0; i < text.length(); i++) {
            number = number << 8 | text.charAt(i);
        }
        return number;
    }

    /** Writes a text of any length on the pad. */
    static void write(VarnishPrices prices, String text) {
        for (int from = 0; from < text.length(); from += 8) {
            prices.put(chars(text.substring(from, Math.min(text.length(), from + 8))));
        }
    }
}
