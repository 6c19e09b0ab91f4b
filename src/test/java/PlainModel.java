import java.util.ArrayList;
import java.util.HashSet;
import java.util.List;
import java.util.Set;

/**
 * The document once more, as slow and as plain as its words: days pass one by one, and every question is answered on
 * a copy. It shares no code with the program.
 */
final class PlainModel {
    private static final int NO_SUCH = -1, BAD_VALUE = -2, BAD_TEXT = -3, TOO_MANY = -4, NOT_POSSIBLE = -5, NONE = -6;
    private static final String BUYER = "[0-9][0-5]:(0|[1-9][0-9]{0,2})";
    private static final String WHOLE = BUYER + "(;" + BUYER + ")*";
    private static final String BEGINNING = "(" + BUYER + ";)*([0-9]?|[0-9][0-5]:?|" + BUYER + ")";

    private static final class Sheet {
        int x, y, width, height, price, sales, brought;
        int[][] varnish;

        Sheet copy() {
            Sheet copy = new Sheet();
            copy.x = x;
            copy.y = y;
            copy.width = width;
            copy.height = height;
            copy.price = price;
            copy.sales = sales;
            copy.brought = brought;
            copy.varnish = new int[width][];
            for (int i = 0; i < width; i++) {
                copy.varnish[i] = varnish[i].clone();
            }
            return copy;
        }

        boolean lies(int cx, int cy) {
            return cx >= x && cx - x < width && cy >= y && cy - y < height;
        }

        int at(int cx, int cy) {
            return varnish[cx - x][cy - y];
        }

        void set(int cx, int cy, int to) {
            varnish[cx - x][cy - y] = to;
        }
    }

    private static final class State {
        List<Sheet> sheets = new ArrayList<>();
        int[] suns = {1, 1, 1, 1, 1, 1, 1, 1, 1, 1};
        int day, sales, brought;

        State copy() {
            State copy = new State();
            for (Sheet sheet : sheets) {
                copy.sheets.add(sheet.copy());
            }
            copy.suns = suns.clone();
            copy.day = day;
            copy.sales = sales;
            copy.brought = brought;
            return copy;
        }

        int seen(int x, int y) {
            for (int i = sheets.size() - 1; i >= 0; i--) {
                if (sheets.get(i).lies(x, y) && sheets.get(i).at(x, y) != 0) {
                    return i;
                }
            }
            return -1;
        }

        int price(int x, int y) {
            return seen(x, y) < 0 ? NONE : sheets.get(seen(x, y)).price;
        }

        int dayPasses() {
            int clear = 0;
            int[][] before = new int[10][6];
            for (int x = 0; x < 10; x++) {
                for (int y = 0; y < 6; y++) {
                    before[x][y] = seen(x, y);
                }
            }
            for (int x = 0; x < 10; x++) {
                for (int y = 0; y < 6; y++) {
                    if (before[x][y] >= 0) {
                        Sheet sheet = sheets.get(before[x][y]);
                        int had = sheet.at(x, y);
                        sheet.set(x, y, had - Math.min(had, suns[x]));
                        clear += sheet.at(x, y) == 0 ? 1 : 0;
                    }
                }
            }
            day++;
            return clear;
        }

        int sum() {
            int sum = 0;
            for (int x = 0; x < 10; x++) {
                for (int y = 0; y < 6; y++) {
                    sum += Math.max(0, price(x, y));
                }
            }
            return sum;
        }

        int unlike(State other) {
            int cells = 0;
            for (int x = 0; x < 10; x++) {
                for (int y = 0; y < 6; y++) {
                    cells += price(x, y) != other.price(x, y) ? 1 : 0;
                }
            }
            return cells;
        }

        int seenOf(int poster) {
            int cells = 0;
            for (int x = 0; x < 10; x++) {
                for (int y = 0; y < 6; y++) {
                    cells += seen(x, y) == poster ? 1 : 0;
                }
            }
            return cells;
        }

        int clearOf(int poster) {
            int cells = 0;
            for (int[] column : sheets.get(poster).varnish) {
                for (int varnish : column) {
                    cells += varnish == 0 ? 1 : 0;
                }
            }
            return cells;
        }

        boolean sell(int x, int y, int purse) {
            int price = price(x, y);
            if (price == NONE || price > purse) {
                return false;
            }
            Sheet sheet = sheets.get(seen(x, y));
            sheet.sales++;
            sheet.brought += price;
            sales++;
            brought += price;
            return true;
        }
    }

    private State now = new State();
    private final List<State> history = new ArrayList<>();
    private final State[] slots = new State[2];
    private String pad = "";

    private boolean cellThere(int x, int y) {
        return x >= 0 && x <= 9 && y >= 0 && y <= 5;
    }

    private boolean posterThere(int poster) {
        return poster >= 0 && poster < now.sheets.size();
    }

    private void record() {
        history.add(now.copy());
        if (history.size() > 6) {
            history.remove(0);
        }
    }

    int paste(int x, int y, int width, int height, int price, int varnish) {
        if (!cellThere(x, y) || width < 1 || height < 1 || (long) x + width > 10 || (long) y + height > 6) {
            return NO_SUCH;
        }
        if (price < 1 || price > 999 || varnish < 1 || varnish > 99) {
            return BAD_VALUE;
        }
        if (now.sheets.size() == 12) {
            return TOO_MANY;
        }
        record();
        Sheet sheet = new Sheet();
        sheet.x = x;
        sheet.y = y;
        sheet.width = width;
        sheet.height = height;
        sheet.price = price;
        sheet.varnish = new int[width][height];
        for (int[] column : sheet.varnish) {
            java.util.Arrays.fill(column, varnish);
        }
        now.sheets.add(sheet);
        return now.sheets.size() - 1;
    }

    int tear(int poster) {
        if (!posterThere(poster)) {
            return NO_SUCH;
        }
        record();
        int seen = now.seenOf(poster);
        now.sheets.remove(poster);
        return seen;
    }

    int coat(int poster, int by) {
        if (!posterThere(poster)) {
            return NO_SUCH;
        }
        if (by < 1 || by > 99) {
            return BAD_VALUE;
        }
        record();
        int cells = 0;
        for (int x = 0; x < 10; x++) {
            for (int y = 0; y < 6; y++) {
                if (now.seen(x, y) == poster) {
                    Sheet sheet = now.sheets.get(poster);
                    sheet.set(x, y, Math.min(99, sheet.at(x, y) + by));
                    cells++;
                }
            }
        }
        return cells;
    }

    int scrape(int x, int y, int by) {
        if (!cellThere(x, y)) {
            return NO_SUCH;
        }
        if (by < 1 || by > 300) {
            return BAD_VALUE;
        }
        if (now.price(x, y) == NONE) {
            return NOT_POSSIBLE;
        }
        record();
        int clear = 0;
        for (int grain = 0; grain < by; grain++) {
            int seen = now.seen(x, y);
            if (seen >= 0) {
                Sheet sheet = now.sheets.get(seen);
                sheet.set(x, y, sheet.at(x, y) - 1);
                clear += sheet.at(x, y) == 0 ? 1 : 0;
            }
        }
        return clear;
    }

    int sun(int x, int strength) {
        if (x < 0 || x > 9) {
            return NO_SUCH;
        }
        if (strength < 0 || strength > 9) {
            return BAD_VALUE;
        }
        record();
        int old = now.suns[x];
        now.suns[x] = strength;
        return old;
    }

    int buy(int x, int y, int purse) {
        if (!cellThere(x, y)) {
            return NO_SUCH;
        }
        if (purse < 0 || purse > 999) {
            return BAD_VALUE;
        }
        if (now.price(x, y) == NONE || now.price(x, y) > purse) {
            return NOT_POSSIBLE;
        }
        record();
        now.sell(x, y, purse);
        return now.price(x, y);
    }

    int buyAll() {
        if (fault() != NONE) {
            return BAD_TEXT;
        }
        record();
        int pay = 0;
        for (String buyer : pad.split(";")) {
            int purse = Integer.parseInt(buyer.substring(3));
            pay += now.sell(buyer.charAt(0) - '0', buyer.charAt(1) - '0', purse) ? 1 : 0;
        }
        pad = "";
        return pay;
    }

    int pass(int days) {
        if (days < 1 || days > 100) {
            return BAD_VALUE;
        }
        if (now.day + days > 9999) {
            return TOO_MANY;
        }
        record();
        int clear = 0;
        for (int i = 0; i < days; i++) {
            clear += now.dayPasses();
        }
        return clear;
    }

    int cell(int x, int y, int what) {
        if (!cellThere(x, y)) {
            return NO_SUCH;
        }
        int seen = now.seen(x, y);
        int lie = 0;
        int notClear = 0;
        for (Sheet sheet : now.sheets) {
            lie += sheet.lies(x, y) ? 1 : 0;
            notClear += sheet.lies(x, y) && sheet.at(x, y) > 0 ? 1 : 0;
        }
        int[] all = {now.price(x, y), seen < 0 ? NONE : seen, seen < 0 ? 0 : now.sheets.get(seen).at(x, y), lie,
            notClear};
        return what < 0 || what > 4 ? BAD_VALUE : all[what];
    }

    int poster(int poster, int what) {
        if (!posterThere(poster)) {
            return NO_SUCH;
        }
        Sheet sheet = now.sheets.get(poster);
        int varnish = 0;
        for (int[] column : sheet.varnish) {
            for (int some : column) {
                varnish += some;
            }
        }
        int seen = now.seenOf(poster);
        int clear = now.clearOf(poster);
        int[] all = {sheet.x, sheet.y, sheet.width, sheet.height, sheet.price, seen, clear,
            sheet.width * sheet.height - seen - clear, sheet.sales, sheet.brought, varnish};
        return what < 0 || what > 10 ? BAD_VALUE : all[what];
    }

    int varnish(int poster, int x, int y) {
        if (!posterThere(poster) || !cellThere(x, y)) {
            return NO_SUCH;
        }
        Sheet sheet = now.sheets.get(poster);
        return sheet.lies(x, y) ? sheet.at(x, y) : NONE;
    }

    int count(int what) {
        Set<Integer> prices = new HashSet<>();
        int shown = 0;
        for (int x = 0; x < 10; x++) {
            for (int y = 0; y < 6; y++) {
                if (now.price(x, y) != NONE) {
                    prices.add(now.price(x, y));
                    shown++;
                }
            }
        }
        int unseen = 0;
        int allClear = 0;
        for (int i = 0; i < now.sheets.size(); i++) {
            unseen += now.seenOf(i) == 0 ? 1 : 0;
            allClear += now.clearOf(i) == now.sheets.get(i).width * now.sheets.get(i).height ? 1 : 0;
        }
        int greatest = prices.stream().mapToInt(Integer::intValue).max().orElse(NONE);
        int[] all = {now.sheets.size(), now.day, shown, prices.size(), greatest, now.sum(), unseen, allClear,
            now.sales, now.brought, pad.length(), history.size()};
        return what < 0 || what > 11 ? BAD_VALUE : all[what];
    }

    int sunOf(int x) {
        return x < 0 || x > 9 ? NO_SUCH : now.suns[x];
    }

    int ifPassed(int days, int what) {
        if (days < 1 || days > 100 || what < 0 || what > 2) {
            return BAD_VALUE;
        }
        State then = now.copy();
        int clear = 0;
        for (int i = 0; i < days; i++) {
            clear += then.dayPasses();
        }
        return what == 0 ? clear : what == 1 ? then.unlike(now) : then.sum();
    }

    int willShow(int x, int y, int days) {
        if (!cellThere(x, y)) {
            return NO_SUCH;
        }
        if (days < 1 || days > 200) {
            return BAD_VALUE;
        }
        State then = now.copy();
        for (int i = 0; i < days; i++) {
            then.dayPasses();
        }
        return then.price(x, y);
    }

    int nextChange() {
        State then = now.copy();
        for (int days = 1; days <= 300; days++) {
            then.dayPasses();
            if (then.unlike(now) > 0) {
                return days;
            }
        }
        return NONE;
    }

    int comesToLight(int poster) {
        if (!posterThere(poster)) {
            return NO_SUCH;
        }
        State then = now.copy();
        for (int days = 0; days <= 300; days++) {
            if (then.seenOf(poster) > 0) {
                return days;
            }
            then.dayPasses();
        }
        return NONE;
    }

    int bestTorn(int what) {
        if (what != 0 && what != 1) {
            return BAD_VALUE;
        }
        int best = NONE;
        int bestSum = NONE;
        for (int i = 0; i < now.sheets.size(); i++) {
            State without = now.copy();
            without.sheets.remove(i);
            if (without.sum() > bestSum) {
                best = i;
                bestSum = without.sum();
            }
        }
        return what == 0 ? best : bestSum;
    }

    int put(long characters) {
        StringBuilder text = new StringBuilder();
        boolean ended = false;
        for (int i = 0; i < 8; i++) {
            int code = (int) (characters >> 8 * i & 255);
            if (ended && code != 0 || code != 0 && (code < 33 || code > 126)) {
                return BAD_VALUE;
            }
            if (code == 0) {
                ended = true;
            } else {
                text.insert(0, (char) code);
            }
        }
        if (text.length() == 0) {
            return BAD_VALUE;
        }
        if (pad.length() + text.length() > 60) {
            return TOO_MANY;
        }
        pad += text;
        return pad.length();
    }

    int wipe() {
        int length = pad.length();
        pad = "";
        return length;
    }

    int fault() {
        for (int i = 0; i < pad.length(); i++) {
            if (!pad.substring(0, i + 1).matches(BEGINNING)) {
                return i;
            }
        }
        return pad.matches(WHOLE) ? NONE : pad.length();
    }

    int undo() {
        if (history.isEmpty()) {
            return NOT_POSSIBLE;
        }
        now = history.remove(history.size() - 1);
        return history.size();
    }

    int save(int slot) {
        if (slot != 0 && slot != 1) {
            return BAD_VALUE;
        }
        slots[slot] = now.copy();
        return now.sheets.size();
    }

    int restore(int slot) {
        if (slot != 0 && slot != 1) {
            return BAD_VALUE;
        }
        if (slots[slot] == null) {
            return NOT_POSSIBLE;
        }
        record();
        now = slots[slot].copy();
        return now.sheets.size();
    }
}
