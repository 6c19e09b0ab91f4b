/** A wall of posters with prices under varnish that the sun fades. What it must do stands in ../shared/DOC.md. */
public final class VarnishPrices {
    public static final int NO_SUCH = -1, BAD_VALUE = -2, BAD_TEXT = -3, TOO_MANY = -4, NOT_POSSIBLE = -5, NONE = -6;

    private static final int COLUMNS = 10;
    private static final int ROWS = 6;
    private static final int CELLS = COLUMNS * ROWS;
    private static final int MOST_POSTERS = 12;
    private static final int MOST_PRICE = 999;
    private static final int MOST_VARNISH = 99;
    private static final int MOST_SCRAPED = 300;
    private static final int MOST_SUN = 9;
    private static final int MOST_PURSE = 999;
    private static final int MOST_PASSED = 100;
    private static final int MOST_SHOWN = 200;
    private static final int FORESEEN_DAYS = 300;
    private static final int LAST_DAY = 9999;
    private static final int PAD_LENGTH = 60;
    private static final int MOST_UNDONE = 6;
    private static final int SLOTS = 2;

    /** Days of a cell that no sun fades; twelve of them added up are still no overflow. */
    private static final int NEVER = 1000000;

    private final Wall wall;
    /** Answers what some days would bring; it is overwritten by each such question. */
    private final Wall later;
    private final History history;
    private final Wall[] slots;
    private final boolean[] saved;
    private final Pad pad;

    public VarnishPrices() {
        wall = new Wall();
        later = new Wall();
        history = new History();
        slots = new Wall[SLOTS];
        for (int slot = 0; slot < SLOTS; slot++) {
            slots[slot] = new Wall();
        }
        saved = new boolean[SLOTS];
        pad = new Pad();
    }

    // ---- changes

    public int paste(int x, int y, int width, int height, int price, int varnish) {
        if (!isCell(x, y) || !isWithin(width, 1, COLUMNS - x) || !isWithin(height, 1, ROWS - y)) {
            return NO_SUCH;
        }
        if (!isWithin(price, 1, MOST_PRICE) || !isWithin(varnish, 1, MOST_VARNISH)) {
            return BAD_VALUE;
        }
        if (wall.pasted >= MOST_POSTERS) {
            return TOO_MANY;
        }
        history.keep(wall);
        return wall.addOnTop(x, y, width, height, price, varnish);
    }

    public int tear(int poster) {
        if (!isPoster(poster)) {
            return NO_SUCH;
        }
        history.keep(wall);
        int seen = wall.seenCellsOf(poster);
        wall.takeDown(poster);
        return seen;
    }

    public int coat(int poster, int by) {
        if (!isPoster(poster)) {
            return NO_SUCH;
        }
        if (!isWithin(by, 1, MOST_VARNISH)) {
            return BAD_VALUE;
        }
        history.keep(wall);
        return wall.coatSeenCells(poster, by);
    }

    public int scrape(int x, int y, int by) {
        if (!isCell(x, y)) {
            return NO_SUCH;
        }
        if (!isWithin(by, 1, MOST_SCRAPED)) {
            return BAD_VALUE;
        }
        int place = cellAt(x, y);
        if (wall.priceAt(place) == NONE) {
            return NOT_POSSIBLE;
        }
        history.keep(wall);
        return wall.scrapeAt(place, by);
    }

    public int sun(int x, int strength) {
        if (!isColumn(x)) {
            return NO_SUCH;
        }
        if (!isWithin(strength, 0, MOST_SUN)) {
            return BAD_VALUE;
        }
        history.keep(wall);
        int previous = wall.suns[x];
        wall.suns[x] = strength;
        return previous;
    }

    public int buy(int x, int y, int purse) {
        if (!isCell(x, y)) {
            return NO_SUCH;
        }
        if (!isWithin(purse, 0, MOST_PURSE)) {
            return BAD_VALUE;
        }
        int place = cellAt(x, y);
        int price = wall.priceAt(place);
        if (price == NONE || price > purse) {
            return NOT_POSSIBLE;
        }
        history.keep(wall);
        wall.sellAt(place, purse);
        return price;
    }

    public int buyAll() {
        if (pad.firstFault() != NONE) {
            return BAD_TEXT;
        }
        history.keep(wall);
        int paying = pad.sendBuyersTo(wall);
        pad.length = 0;
        return paying;
    }

    public int pass(int days) {
        if (!isWithin(days, 1, MOST_PASSED)) {
            return BAD_VALUE;
        }
        if (wall.day + days > LAST_DAY) {
            return TOO_MANY;
        }
        history.keep(wall);
        wall.day += days;
        return wall.fade(days);
    }

    // ---- what there is; nothing changes

    public int cell(int x, int y, int what) {
        if (!isCell(x, y)) {
            return NO_SUCH;
        }
        int place = cellAt(x, y);
        switch (what) {
            case 0: return wall.priceAt(place);
            case 1: return wall.seenAt(place);
            case 2: return wall.seenVarnishAt(place);
            case 3: return wall.postersAt(x, y);
            case 4: return wall.notClearAt(place);
            default: return BAD_VALUE;
        }
    }

    public int poster(int poster, int what) {
        if (!isPoster(poster)) {
            return NO_SUCH;
        }
        Poster asked = wall.posters[poster];
        switch (what) {
            case 0: return asked.x;
            case 1: return asked.y;
            case 2: return asked.width;
            case 3: return asked.height;
            case 4: return asked.price;
            case 5: return wall.seenCellsOf(poster);
            case 6: return asked.clearCells();
            case 7: return asked.notClearCells() - wall.seenCellsOf(poster);
            case 8: return asked.sales;
            case 9: return asked.brought;
            case 10: return asked.allVarnish();
            default: return BAD_VALUE;
        }
    }

    public int varnish(int poster, int x, int y) {
        if (!isPoster(poster) || !isCell(x, y)) {
            return NO_SUCH;
        }
        Poster asked = wall.posters[poster];
        return asked.liesAt(x, y) ? asked.coats[cellAt(x, y)] : NONE;
    }

    public int count(int what) {
        switch (what) {
            case 0: return wall.pasted;
            case 1: return wall.day;
            case 2: return wall.cellsWithPrice();
            case 3: return wall.unlikePrices();
            case 4: return wall.greatestPrice();
            case 5: return wall.sumWithout(NONE);
            case 6: return wall.postersUnseen();
            case 7: return wall.postersAllClear();
            case 8: return wall.sales;
            case 9: return wall.brought;
            case 10: return pad.length;
            case 11: return history.size;
            default: return BAD_VALUE;
        }
    }

    public int sunOf(int x) {
        return isColumn(x) ? wall.suns[x] : NO_SUCH;
    }

    // ---- what if; nothing changes

    public int ifPassed(int days, int what) {
        if (!isWithin(days, 1, MOST_PASSED) || !isWithin(what, 0, 2)) {
            return BAD_VALUE;
        }
        later.copyFrom(wall);
        int cleared = later.fade(days);
        switch (what) {
            case 0: return cleared;
            case 1: return later.pricesUnlike(wall);
            default: return later.sumWithout(NONE);
        }
    }

    public int willShow(int x, int y, int days) {
        if (!isCell(x, y)) {
            return NO_SUCH;
        }
        if (!isWithin(days, 1, MOST_SHOWN)) {
            return BAD_VALUE;
        }
        int place = cellAt(x, y);
        later.copyFrom(wall);
        later.fadeAt(place, days);
        return later.priceAt(place);
    }

    public int nextChange() {
        int soonest = NEVER;
        for (int place = 0; place < CELLS; place++) {
            soonest = Math.min(soonest, wall.daysToOtherPrice(place));
        }
        return soonest <= FORESEEN_DAYS ? soonest : NONE;
    }

    public int comesToLight(int poster) {
        if (!isPoster(poster)) {
            return NO_SUCH;
        }
        int soonest = NEVER;
        for (int place = 0; place < CELLS; place++) {
            soonest = Math.min(soonest, wall.daysToSee(poster, place));
        }
        return soonest <= FORESEEN_DAYS ? soonest : NONE;
    }

    public int bestTorn(int what) {
        if (!isWithin(what, 0, 1)) {
            return BAD_VALUE;
        }
        int best = NONE;
        int greatest = NONE;
        for (int torn = 0; torn < wall.pasted; torn++) {
            int sum = wall.sumWithout(torn);
            if (sum > greatest) {
                best = torn;
                greatest = sum;
            }
        }
        return what == 0 ? best : greatest;
    }

    // ---- texts

    public int put(long characters) {
        int signs = Pad.signsIn(characters);
        if (signs == 0) {
            return BAD_VALUE;
        }
        if (signs > PAD_LENGTH - pad.length) {
            return TOO_MANY;
        }
        pad.append(characters, signs);
        return pad.length;
    }

    public int wipe() {
        int length = pad.length;
        pad.length = 0;
        return length;
    }

    public int fault() {
        return pad.firstFault();
    }

    // ---- undo, saving

    public int undo() {
        if (history.size == 0) {
            return NOT_POSSIBLE;
        }
        history.takeBack(wall);
        return history.size;
    }

    public int save(int slot) {
        if (!isWithin(slot, 0, SLOTS - 1)) {
            return BAD_VALUE;
        }
        slots[slot].copyFrom(wall);
        saved[slot] = true;
        return wall.pasted;
    }

    public int restore(int slot) {
        if (!isWithin(slot, 0, SLOTS - 1)) {
            return BAD_VALUE;
        }
        if (!saved[slot]) {
            return NOT_POSSIBLE;
        }
        history.keep(wall);
        wall.copyFrom(slots[slot]);
        return wall.pasted;
    }

    private boolean isPoster(int number) {
        return isWithin(number, 0, wall.pasted - 1);
    }

    private static boolean isColumn(int x) {
        return isWithin(x, 0, COLUMNS - 1);
    }

    private static boolean isCell(int x, int y) {
        return isColumn(x) && isWithin(y, 0, ROWS - 1);
    }

    private static boolean isWithin(int number, int least, int most) {
        return number >= least && number <= most;
    }

    private static int cellAt(int x, int y) {
        return y * COLUMNS + x;
    }

    private static final class Poster {
        int x;
        int y;
        int width;
        int height;
        int price;
        int sales;
        int brought;
        /** The varnish by cell of the wall; 0 also where the poster does not lie, as it hides nothing there. */
        final int[] coats;

        Poster() {
            coats = new int[CELLS];
        }

        void cover(int x, int y, int width, int height) {
            this.x = x;
            this.y = y;
            this.width = width;
            this.height = height;
        }

        /** Makes it new: its object may have been another poster before. */
        void begin(int price, int varnish) {
            this.price = price;
            sales = 0;
            brought = 0;
            for (int place = 0; place < CELLS; place++) {
                coats[place] = liesAt(place % COLUMNS, place / COLUMNS) ? varnish : 0;
            }
        }

        void copyFrom(Poster other) {
            cover(other.x, other.y, other.width, other.height);
            price = other.price;
            sales = other.sales;
            brought = other.brought;
            System.arraycopy(other.coats, 0, coats, 0, CELLS);
        }

        boolean liesAt(int column, int row) {
            return column >= x && column < x + width && row >= y && row < y + height;
        }

        int notClearCells() {
            int cells = 0;
            for (int place = 0; place < CELLS; place++) {
                if (coats[place] > 0) {
                    cells++;
                }
            }
            return cells;
        }

        int clearCells() {
            return width * height - notClearCells();
        }

        int allVarnish() {
            int sum = 0;
            for (int place = 0; place < CELLS; place++) {
                sum += coats[place];
            }
            return sum;
        }
    }

    /** All that is undone, saved and restored. */
    private static final class Wall {
        /** From the lowest one up; those from the number `pasted` on are not on the wall. */
        final Poster[] posters;
        int pasted;
        final int[] suns;
        int day;
        int sales;
        int brought;

        Wall() {
            posters = new Poster[MOST_POSTERS];
            for (int number = 0; number < MOST_POSTERS; number++) {
                posters[number] = new Poster();
            }
            suns = new int[COLUMNS];
            for (int column = 0; column < COLUMNS; column++) {
                suns[column] = 1;
            }
        }

        void copyFrom(Wall other) {
            pasted = other.pasted;
            for (int number = 0; number < pasted; number++) {
                posters[number].copyFrom(other.posters[number]);
            }
            System.arraycopy(other.suns, 0, suns, 0, COLUMNS);
            day = other.day;
            sales = other.sales;
            brought = other.brought;
        }

        int addOnTop(int x, int y, int width, int height, int price, int varnish) {
            if (pasted >= MOST_POSTERS) {
                return TOO_MANY;
            }
            Poster added = posters[pasted];
            added.cover(x, y, width, height);
            added.begin(price, varnish);
            pasted++;
            return pasted - 1;
        }

        void takeDown(int poster) {
            Poster torn = posters[poster];
            for (int above = poster + 1; above < pasted; above++) {
                posters[above - 1] = posters[above];
            }
            pasted--;
            // Its object stays behind the others, for the next poster.
            posters[pasted] = torn;
        }

        int coatSeenCells(int poster, int by) {
            int coated = 0;
            int[] coats = posters[poster].coats;
            for (int place = 0; place < CELLS; place++) {
                if (seenAt(place) == poster) {
                    coats[place] = Math.min(coats[place] + by, MOST_VARNISH);
                    coated++;
                }
            }
            return coated;
        }

        int scrapeAt(int place, int by) {
            int cleared = 0;
            int rest = by;
            for (int number = pasted - 1; number >= 0 && rest > 0; number--) {
                int[] coats = posters[number].coats;
                int lost = Math.min(coats[place], rest);
                coats[place] -= lost;
                rest -= lost;
                if (lost > 0 && coats[place] == 0) {
                    cleared++;
                }
            }
            return cleared;
        }

        /** Tells whether the buyer pays. */
        boolean sellAt(int place, int purse) {
            int seller = seenAt(place);
            if (seller == NONE || posters[seller].price > purse) {
                return false;
            }
            int price = posters[seller].price;
            posters[seller].sales++;
            posters[seller].brought += price;
            sales++;
            brought += price;
            return true;
        }

        /** Lets the sun shine on all cells; returns how many cells of posters become clear. */
        int fade(int days) {
            int cleared = 0;
            for (int place = 0; place < CELLS; place++) {
                cleared += fadeAt(place, days);
            }
            return cleared;
        }

        int fadeAt(int place, int days) {
            int cleared = 0;
            int rest = days;
            for (int number = pasted - 1; number >= 0 && rest > 0; number--) {
                int[] coats = posters[number].coats;
                int needed = daysToClear(number, place);
                if (needed > rest) {
                    coats[place] -= rest * suns[place % COLUMNS];
                    rest = 0;
                } else if (needed > 0) {
                    coats[place] = 0;
                    rest -= needed;
                    cleared++;
                }
            }
            return cleared;
        }

        /** How many days of its own the cell takes; the sun that its last day leaves over fades nothing below. */
        private int daysToClear(int poster, int place) {
            int varnish = posters[poster].coats[place];
            int sun = suns[place % COLUMNS];
            if (varnish == 0) {
                return 0;
            }
            return sun > 0 ? (varnish + sun - 1) / sun : NEVER;
        }

        int daysToOtherPrice(int place) {
            int price = priceAt(place);
            if (price == NONE) {
                return NEVER;
            }
            int days = 0;
            for (int number = pasted - 1; number >= 0; number--) {
                if (posters[number].coats[place] > 0 && posters[number].price != price) {
                    return days;
                }
                days += daysToClear(number, place);
            }
            return days;
        }

        int daysToSee(int poster, int place) {
            if (posters[poster].coats[place] == 0) {
                return NEVER;
            }
            int days = 0;
            for (int above = poster + 1; above < pasted; above++) {
                days += daysToClear(above, place);
            }
            return days;
        }

        int seenAt(int place) {
            return seenWithout(NONE, place);
        }

        /** The poster that would be seen if one were torn down; with NONE it is the one that is seen now. */
        private int seenWithout(int torn, int place) {
            for (int number = pasted - 1; number >= 0; number--) {
                if (number != torn && posters[number].coats[place] > 0) {
                    return number;
                }
            }
            return NONE;
        }

        int sumWithout(int torn) {
            int sum = 0;
            for (int place = 0; place < CELLS; place++) {
                int seen = seenWithout(torn, place);
                if (seen != NONE) {
                    sum += posters[seen].price;
                }
            }
            return sum;
        }

        int priceAt(int place) {
            int seen = seenAt(place);
            return seen == NONE ? NONE : posters[seen].price;
        }

        int seenVarnishAt(int place) {
            int seen = seenAt(place);
            return seen == NONE ? 0 : posters[seen].coats[place];
        }

        int postersAt(int x, int y) {
            int found = 0;
            for (int number = 0; number < pasted; number++) {
                if (posters[number].liesAt(x, y)) {
                    found++;
                }
            }
            return found;
        }

        int notClearAt(int place) {
            int found = 0;
            for (int number = 0; number < pasted; number++) {
                if (posters[number].coats[place] > 0) {
                    found++;
                }
            }
            return found;
        }

        int seenCellsOf(int poster) {
            int cells = 0;
            for (int place = 0; place < CELLS; place++) {
                if (seenAt(place) == poster) {
                    cells++;
                }
            }
            return cells;
        }

        int cellsWithPrice() {
            int cells = 0;
            for (int place = 0; place < CELLS; place++) {
                if (seenAt(place) != NONE) {
                    cells++;
                }
            }
            return cells;
        }

        int unlikePrices() {
            int prices = 0;
            for (int number = 0; number < pasted; number++) {
                if (seenCellsOf(number) > 0 && !isPriceSeenBelow(number)) {
                    prices++;
                }
            }
            return prices;
        }

        private boolean isPriceSeenBelow(int poster) {
            for (int below = 0; below < poster; below++) {
                if (posters[below].price == posters[poster].price && seenCellsOf(below) > 0) {
                    return true;
                }
            }
            return false;
        }

        int greatestPrice() {
            int greatest = NONE;
            for (int place = 0; place < CELLS; place++) {
                greatest = Math.max(greatest, priceAt(place));
            }
            return greatest;
        }

        int postersUnseen() {
            int found = 0;
            for (int number = 0; number < pasted; number++) {
                if (seenCellsOf(number) == 0) {
                    found++;
                }
            }
            return found;
        }

        int postersAllClear() {
            int found = 0;
            for (int number = 0; number < pasted; number++) {
                if (posters[number].notClearCells() == 0) {
                    found++;
                }
            }
            return found;
        }

        int pricesUnlike(Wall other) {
            int cells = 0;
            for (int place = 0; place < CELLS; place++) {
                if (priceAt(place) != other.priceAt(place)) {
                    cells++;
                }
            }
            return cells;
        }
    }

    /** The states before the latest changes, the oldest first. */
    private static final class History {
        final Wall[] states;
        int size;

        History() {
            states = new Wall[MOST_UNDONE];
            for (int number = 0; number < MOST_UNDONE; number++) {
                states[number] = new Wall();
            }
        }

        void keep(Wall wall) {
            if (size >= MOST_UNDONE) {
                dropOldest();
            }
            states[size].copyFrom(wall);
            size++;
        }

        private void dropOldest() {
            Wall oldest = states[0];
            for (int number = 1; number < MOST_UNDONE; number++) {
                states[number - 1] = states[number];
            }
            states[MOST_UNDONE - 1] = oldest;
            size = MOST_UNDONE - 1;
        }

        void takeBack(Wall wall) {
            if (size > 0) {
                size--;
                wall.copyFrom(states[size]);
            }
        }
    }

    private static final class Pad {
        private static final int MOST_SIGNS = 8;
        private static final int SIGN_BITS = 8;
        private static final int SIGN_MASK = 255;
        private static final int LEAST_CODE = 33;
        private static final int MOST_CODE = 126;

        final char[] signs;
        int length;
        final BuyerReader reader;

        Pad() {
            signs = new char[PAD_LENGTH];
            reader = new BuyerReader();
        }

        /** How many characters the number gives; 0 if there is none or one of its bits is wrong. */
        static int signsIn(long characters) {
            int found = 0;
            long rest = characters;
            while (rest != 0 && found < MOST_SIGNS) {
                int code = (int) (rest & SIGN_MASK);
                if (code < LEAST_CODE || code > MOST_CODE) {
                    return 0;
                }
                found++;
                rest >>>= SIGN_BITS;
            }
            return found;
        }

        void append(long characters, int added) {
            if (added < 0 || added > PAD_LENGTH - length) {
                return;
            }
            long rest = characters;
            for (int index = length + added - 1; index >= length; index--) {
                signs[index] = (char) (rest & SIGN_MASK);
                rest >>>= SIGN_BITS;
            }
            length += added;
        }

        int firstFault() {
            reader.begin();
            for (int index = 0; index < length; index++) {
                if (!reader.takes(signs[index])) {
                    return index;
                }
            }
            return reader.mayEnd() ? NONE : length;
        }

        /** For a text without fault; returns how many of its buyers pay. */
        int sendBuyersTo(Wall wall) {
            int paying = 0;
            reader.begin();
            for (int index = 0; index < length; index++) {
                reader.takes(signs[index]);
                boolean isLast = index + 1 == length;
                if ((isLast || signs[index] == ';') && reader.pays(wall)) {
                    paying++;
                }
            }
            return paying;
        }
    }

    /** Reads buyers sign by sign: one reader for the fault and for the buying, so that both mean the same text. */
    private static final class BuyerReader {
        private static final int AT_X = 0;
        private static final int AT_Y = 1;
        private static final int AT_COLON = 2;
        private static final int AT_PURSE = 3;
        private static final int IN_PURSE = 4;

        private int position;
        private int x;
        private int y;
        private int purse;

        void begin() {
            position = AT_X;
        }

        boolean mayEnd() {
            return position == IN_PURSE;
        }

        /** Takes the next sign; false if it cannot stand there, and then the reading is over. */
        boolean takes(char sign) {
            int digit = sign >= '0' && sign <= '9' ? sign - '0' : NONE;
            switch (position) {
                case AT_X:
                    x = digit;
                    position = AT_Y;
                    return digit != NONE;
                case AT_Y:
                    y = digit;
                    position = AT_COLON;
                    return isWithin(digit, 0, ROWS - 1);
                case AT_COLON:
                    position = AT_PURSE;
                    return sign == ':';
                case AT_PURSE:
                    purse = digit;
                    position = IN_PURSE;
                    return digit != NONE;
                default:
                    return sign == ';' ? endsBuyer() : lengthensPurse(digit);
            }
        }

        private boolean endsBuyer() {
            position = AT_X;
            return true;
        }

        private boolean lengthensPurse(int digit) {
            // Behind a purse of 0 a digit would make that 0 a leading one.
            if (digit == NONE || purse == 0 || purse * 10 + digit > MOST_PURSE) {
                return false;
            }
            purse = purse * 10 + digit;
            return true;
        }

        /** The buyer that was read last comes to the wall. */
        boolean pays(Wall wall) {
            return isCell(x, y) && wall.sellAt(cellAt(x, y), purse);
        }
    }
}
