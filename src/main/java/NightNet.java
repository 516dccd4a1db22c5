/**
 * Night let by the square: two rows of six places round a sun, and a net of as many cells about it that
 * turns, on which squares of cloth make night. The document (DOC.md) tells what each call answers; words
 * that it writes in capitals are meant here as it means them.
 *
 * <p>A set of cells, of hours or of wishes is an int, bit i for number i. No call makes an object: all that
 * is needed is made with the object and used again.
 */
public final class NightNet {
    public static final int UNKNOWN = -1, OUTSIDE = -2, STATE = -3, FULL = -4, NONE = -9;

    private static final int COLUMNS = 6;
    private static final int ROWS = 2;
    private static final int HOURS = 6;
    private static final int CELLS = COLUMNS * ROWS; // and as many places
    private static final int HANGINGS = 1 << CELLS;
    private static final int ALL_CELLS = HANGINGS - 1;
    private static final int ONE_ROW = (1 << COLUMNS) - 1;

    private static final int MOST_LETTERS = 72;
    private static final int LAST_LETTER = 255;
    private static final int MOST_SQUARES = 5;
    private static final int MOST_WISHES = 5;
    private static final int MOST_OWED = 4;
    private static final int MOST_ACTS = 16;
    private static final int MOST_TOLD = 6;
    private static final int MOST_GUSTS = 40;
    private static final int SLOTS = 2;
    private static final int TENTHS = 10;
    private static final int LOSS_OF_NOTHING = 1000;
    private static final long SEED_TIMES = 6364136223846793005L;
    private static final long SEED_AND = 1442695040888963407L;

    private final Text text = new Text();
    private final Lease lease = new Lease();
    private final Reader reader = new Reader(lease);
    /** Looks for faults, so that a text with one leaves the lease as it is. */
    private final Reader prover = new Reader(new Lease());
    private final Survey survey = new Survey(lease);
    private final Paths paths = new Paths();
    private final Acts acts = new Acts();
    private final Row slots = new Row(SLOTS);

    private int hangingNow;
    private int hourNow;
    private int toldDark; // cells in which a square must have hung
    private int toldLight; // cells in which none can have hung
    private int toldCount;
    private long seedNow;

    public NightNet() {
        emptySlots();
    }

    // ---- the letting

    public int write(int letter) {
        if (letter < 0 || letter > LAST_LETTER) {
            return OUTSIDE;
        }
        if (text.length() >= MOST_LETTERS) {
            return FULL;
        }
        text.add(letter);
        return text.length();
    }

    public int wipe() {
        int length = text.length();
        text.clear();
        return length;
    }

    public int fault() {
        return prover.readThrough(text);
    }

    public int letting() {
        if (prover.readThrough(text) != NONE) {
            return STATE;
        }
        reader.readThrough(text);
        survey.forget();
        acts.clear();
        emptySlots();
        hangingNow = lease.squares();
        hourNow = 0;
        return lease.wishCount();
    }

    public int wish(int wish, int what) {
        if (!isWish(wish)) {
            return UNKNOWN;
        }
        switch (what) {
            case 0:
                return lease.placeOf(wish);
            case 1:
                return lease.firstHourOf(wish);
            case 2:
                return lease.spanOf(wish);
            case 3:
                return lease.valueOf(wish);
            case 4:
                return lease.wantsDark(wish) ? 1 : 0;
            case 5:
                return has(lease.grantedBy(hangingNow), wish) ? 1 : 0;
            case 6:
                return lease.hoursOf(wish);
            default:
                return OUTSIDE;
        }
    }

    public int place(int place, int what) {
        if (!isCell(place)) {
            return UNKNOWN;
        }
        switch (what) {
            case 0:
                return has(hangingNow, cellAbove(place, hourNow)) ? 1 : 0;
            case 1:
                return darkHours(place);
            case 2:
                return lease.owedTo(place);
            case 3:
                return cellAbove(place, hourNow);
            default:
                return OUTSIDE;
        }
    }

    public int dark(int place, int hour) {
        if (!isCell(place)) {
            return UNKNOWN;
        }
        if (!isHour(hour)) {
            return OUTSIDE;
        }
        return has(hangingNow, cellAbove(place, hour)) ? 1 : 0;
    }

    public int read(int place) {
        if (!isCell(place)) {
            return UNKNOWN;
        }
        int seen = 0;
        int cell = cellAbove(place, hourNow);
        for (int column = 0; column < COLUMNS; column++) {
            seen = 2 * seen + (has(hangingNow, cell) ? 1 : 0);
            cell = nextCell(cell, 1);
        }
        return seen;
    }

    // ---- acts

    public int hang(int cell) {
        if (!isCell(cell)) {
            return UNKNOWN;
        }
        if (has(hangingNow, cell)) {
            return STATE;
        }
        if (squaresNow() >= MOST_SQUARES) {
            return FULL;
        }
        acts.add(momentNow());
        hangingNow |= 1 << cell;
        return squaresNow();
    }

    public int take(int cell) {
        if (!isCell(cell)) {
            return UNKNOWN;
        }
        if (!has(hangingNow, cell)) {
            return STATE;
        }
        acts.add(momentNow());
        hangingNow &= ~(1 << cell);
        return squaresNow();
    }

    public int move(int cell, int by) {
        if (!isCell(cell)) {
            return UNKNOWN;
        }
        if (by < -1 || by > 1) {
            return OUTSIDE;
        }
        int after = afterMove(hangingNow, cell, by);
        if (after == NONE) {
            return STATE;
        }
        acts.add(momentNow());
        hangingNow = after;
        return nextCell(cell, by);
    }

    public int hour() {
        acts.add(momentNow());
        hourNow = (hourNow + 1) % HOURS;
        return hourNow;
    }

    public int undo() {
        int before = acts.removeLast();
        if (before == NONE) {
            return STATE;
        }
        goBackTo(before);
        return acts.size();
    }

    public int judge(int n, int row) {
        if (n < 1 || n > 2 || row < 0 || row > (n == 1 ? 999 : 999999)) {
            return OUTSIDE;
        }
        int hanging = hangingNow;
        for (int i = 0; i < n; i++) {
            int figures = i < n - 1 ? row / 1000 : row % 1000;
            hanging = afterToldMove(hanging, figures / 10, figures % 10);
            if (hanging == NONE) {
                return i;
            }
        }
        return NONE;
    }

    // ---- worths

    public int worth(int hanging) {
        return isHanging(hanging) ? lease.worthOf(hanging) : OUTSIDE;
    }

    public int lawful(int hanging) {
        if (!isHanging(hanging)) {
            return OUTSIDE;
        }
        return lease.allows(hanging) ? 1 : 0;
    }

    public int best(int n, int what) {
        if (!isSquares(n) || what < 0 || what > 2) {
            return OUTSIDE;
        }
        int found = survey.bestOf(n);
        if (found == NONE) {
            return NONE;
        }
        if (what == 1) {
            return found;
        }
        return what == 0 ? lease.worthOf(found) : lease.grantedBy(found);
    }

    public int many(int n) {
        return isSquares(n) ? survey.lawfulOf(n) : OUTSIDE;
    }

    public int bars(int wish, int n) {
        if (!isWish(wish)) {
            return UNKNOWN;
        }
        if (!isSquares(n)) {
            return OUTSIDE;
        }
        int barred = 0;
        for (int other = 0; other < lease.wishCount(); other++) {
            if (other != wish && areBarred(wish, other, n)) {
                barred |= 1 << other;
            }
        }
        return barred;
    }

    public int loss(int cell) {
        if (!isCell(cell)) {
            return UNKNOWN;
        }
        if (!has(hangingNow, cell)) {
            return STATE;
        }
        return LOSS_OF_NOTHING + lease.worthOf(hangingNow) - lease.worthOf(hangingNow & ~(1 << cell));
    }

    public int flow(int hanging) {
        if (!isHanging(hanging)) {
            return OUTSIDE;
        }
        if (Integer.bitCount(hanging) != squaresNow()) {
            return STATE;
        }
        return paths.fewestMoves(hangingNow, hanging);
    }

    // ---- prices

    public int due(int wish, int n) {
        if (!isWish(wish)) {
            return UNKNOWN;
        }
        if (!isSquares(n)) {
            return OUTSIDE;
        }
        int found = survey.bestOf(n);
        if (found == NONE) {
            return NONE;
        }
        int granted = lease.grantedBy(found);
        if (!has(granted, wish)) {
            return 0;
        }
        int others = lease.allWishes() & ~(1 << wish);
        return survey.mostWorth(n, others) - lease.sumOf(granted & others);
    }

    public int share(int wish, int n, boolean upper) {
        if (!isWish(wish)) {
            return UNKNOWN;
        }
        if (!isSquares(n)) {
            return OUTSIDE;
        }
        int wishes = lease.wishCount();
        int gained = 0; // over all orders
        for (int come = 0; come < 1 << wishes; come++) {
            if (!has(come, wish)) {
                int ahead = Integer.bitCount(come);
                int orders = factorial(ahead) * factorial(wishes - 1 - ahead);
                gained += orders * (survey.mostWorth(n, come | 1 << wish) - survey.mostWorth(n, come));
            }
        }
        return inLeastTerms(gained, factorial(wishes), upper);
    }

    // ---- told, winds

    public int tell(int place, int hour, boolean dark) {
        if (!isCell(place)) {
            return UNKNOWN;
        }
        if (!isHour(hour)) {
            return OUTSIDE;
        }
        if (toldCount >= MOST_TOLD) {
            return FULL;
        }
        int cell = 1 << cellAbove(place, hour);
        if (dark) {
            toldDark |= cell;
        } else {
            toldLight |= cell;
        }
        toldCount++;
        return toldCount;
    }

    public int untell() {
        int count = toldCount;
        toldDark = 0;
        toldLight = 0;
        toldCount = 0;
        return count;
    }

    public int fits(int n, int what) {
        if (!isSquares(n) || what < 0 || what > 2) {
            return OUTSIDE;
        }
        int found = 0;
        int inAll = ALL_CELLS;
        int inSome = 0;
        for (int hanging = 0; hanging < HANGINGS; hanging++) {
            if (Integer.bitCount(hanging) == n && agreesWithTold(hanging)) {
                found++;
                inAll &= hanging;
                inSome |= hanging;
            }
        }
        if (what == 0) {
            return found;
        }
        if (found == 0) {
            return NONE;
        }
        return what == 1 ? inAll : ALL_CELLS & ~inSome;
    }

    public int wind(int x, boolean upper) {
        if (x < 0 || x > TENTHS) {
            return OUTSIDE;
        }
        int squares = squaresNow();
        int sum = 0; // of worths, each as often as it is left of 10 to the power of the squares
        for (int left = 0; left < HANGINGS; left++) {
            if ((left & ~hangingNow) == 0) {
                int stay = Integer.bitCount(left);
                sum += power(TENTHS - x, stay) * power(x, squares - stay) * lease.worthOf(left);
            }
        }
        return inLeastTerms(sum, power(TENTHS, squares), upper);
    }

    public long seed(long v) {
        long before = seedNow;
        seedNow = v;
        return before;
    }

    public int storm(int m) {
        if (m < 1 || m > MOST_GUSTS) {
            return OUTSIDE;
        }
        int hanging = hangingNow;
        for (int gust = 0; gust < m; gust++) {
            seedNow = seedNow * SEED_TIMES + SEED_AND;
            int drawn = (int) (seedNow >>> 33);
            int after = afterToldMove(hanging, drawn % CELLS, drawn / CELLS % 3);
            hanging = after == NONE ? hanging : after;
        }
        return hanging;
    }

    // ---- slots

    public int keep(int slot) {
        if (slot < 0 || slot >= SLOTS) {
            return UNKNOWN;
        }
        slots.put(slot, momentNow());
        return squaresNow();
    }

    public int again(int slot) {
        if (slot < 0 || slot >= SLOTS) {
            return UNKNOWN;
        }
        int kept = slots.at(slot);
        if (kept == NONE) {
            return STATE;
        }
        goBackTo(kept);
        acts.clear();
        return squaresNow();
    }

    public int count(int what) {
        switch (what) {
            case 0:
                return text.length();
            case 1:
                return lease.wishCount();
            case 2:
                return lease.owedCount();
            case 3:
                return squaresNow();
            case 4:
                return hourNow;
            case 5:
                return hangingNow;
            case 6:
                return acts.size();
            case 7:
                return toldCount;
            case 8:
                return lease.grantedBy(hangingNow);
            default:
                return OUTSIDE;
        }
    }

    // ---- what a number may be

    /** Cells and places have the same numbers. */
    private static boolean isCell(int number) {
        return number >= 0 && number < CELLS;
    }

    private static boolean isHour(int number) {
        return number >= 0 && number < HOURS;
    }

    private static boolean isSquares(int n) {
        return n >= 0 && n <= MOST_SQUARES;
    }

    private static boolean isHanging(int bits) {
        return bits >= 0 && bits < HANGINGS && Integer.bitCount(bits) <= MOST_SQUARES;
    }

    private boolean isWish(int number) {
        return number >= 0 && number < lease.wishCount();
    }

    private static boolean has(int bits, int number) {
        return (bits >> number & 1) == 1;
    }

    // ---- the net

    private static int cellAbove(int place, int hour) {
        int column = place % COLUMNS;
        return place - column + (column + COLUMNS - hour) % COLUMNS;
    }

    /** The cell next to one, by 1 or -1 in its row, by 0 in the other row. */
    private static int nextCell(int cell, int by) {
        if (by == 0) {
            return (cell + COLUMNS) % CELLS;
        }
        int column = cell % COLUMNS;
        return cell - column + (column + COLUMNS + by) % COLUMNS;
    }

    /** The hanging after a move; NONE, if it can not be. */
    private static int afterMove(int hanging, int cell, int by) {
        int next = nextCell(cell, by);
        if (!has(hanging, cell) || has(hanging, next)) {
            return NONE;
        }
        return hanging & ~(1 << cell) | 1 << next;
    }

    /** The same, with the way told by a figure (0 by 1, 1 by -1, 2 by 0); NONE, too, if one is no such number. */
    private static int afterToldMove(int hanging, int cell, int how) {
        if (!isCell(cell) || how < 0 || how > 2) {
            return NONE;
        }
        return afterMove(hanging, cell, how == 0 ? 1 : how == 1 ? -1 : 0);
    }

    private int darkHours(int place) {
        int hours = 0;
        for (int hour = 0; hour < HOURS; hour++) {
            if (has(hangingNow, cellAbove(place, hour))) {
                hours |= 1 << hour;
            }
        }
        return hours;
    }

    // ---- how it stands

    private int squaresNow() {
        return Integer.bitCount(hangingNow);
    }

    /** The hanging and the hour in one number that is not less than 0. */
    private int momentNow() {
        return hourNow * HANGINGS + hangingNow;
    }

    private void goBackTo(int moment) {
        hangingNow = moment % HANGINGS;
        hourNow = moment / HANGINGS;
    }

    private void emptySlots() {
        for (int slot = 0; slot < SLOTS; slot++) {
            slots.put(slot, NONE);
        }
    }

    private boolean agreesWithTold(int hanging) {
        return (hanging & toldDark) == toldDark && (hanging & toldLight) == 0;
    }

    private boolean areBarred(int one, int other, int n) {
        return survey.canGrant(n, 1 << one)
            && survey.canGrant(n, 1 << other)
            && !survey.canGrant(n, 1 << one | 1 << other);
    }

    // ---- fractions

    private static int inLeastTerms(int above, int below, boolean upper) {
        int common = commonDivisor(above, below);
        int asked = upper ? above : below;
        return common == 0 ? asked : asked / common;
    }

    /** Of numbers not less than 0; thirty-two bits need fewer than 64 steps. */
    private static int commonDivisor(int one, int other) {
        int big = one;
        int small = other;
        for (int step = 0; step < 64 && small != 0; step++) {
            int rest = big % small;
            big = small;
            small = rest;
        }
        return big;
    }

    private static int factorial(int n) {
        int product = 1;
        for (int factor = 2; factor <= n; factor++) {
            product *= factor;
        }
        return product;
    }

    private static int power(int base, int exponent) {
        int product = 1;
        for (int i = 0; i < exponent; i++) {
            product *= base;
        }
        return product;
    }

    /** Numbers in a row. Outside of it one reads 0 and nothing is written, so that no index can fail. */
    private static final class Row {
        private final int[] numbers;

        Row(int length) {
            numbers = new int[Math.max(length, 0)];
        }

        int at(int i) {
            return i >= 0 && i < numbers.length ? numbers[i] : 0;
        }

        void put(int i, int number) {
            if (i >= 0 && i < numbers.length) {
                numbers[i] = number;
            }
        }

        void fill(int number) {
            for (int i = 0; i < numbers.length; i++) {
                numbers[i] = number;
            }
        }
    }

    /** THE TEXT, whether it is a letting or not. */
    private static final class Text {
        private final Row letters = new Row(MOST_LETTERS);
        private int length;

        int length() {
            return length;
        }

        int letterAt(int i) {
            return letters.at(i);
        }

        void add(int letter) {
            letters.put(length, letter);
            length++;
        }

        void clear() {
            length = 0;
        }
    }

    /** The last acts, each as the moment before it: nothing but acts comes between, so going back undoes one. */
    private static final class Acts {
        private final Row moments = new Row(MOST_ACTS);
        private int size;

        int size() {
            return size;
        }

        void clear() {
            size = 0;
        }

        void add(int moment) {
            if (size >= MOST_ACTS) {
                forgetFirst();
            }
            moments.put(size, moment);
            size++;
        }

        int removeLast() {
            if (size == 0) {
                return NONE;
            }
            size--;
            return moments.at(size);
        }

        private void forgetFirst() {
            for (int i = 1; i < MOST_ACTS; i++) {
                moments.put(i - 1, moments.at(i));
            }
            size = MOST_ACTS - 1;
        }
    }

    /** What a letting tells: squares, wishes and light that is owed. */
    private static final class Lease {
        private final Row places = new Row(MOST_WISHES);
        private final Row firstHours = new Row(MOST_WISHES);
        private final Row spans = new Row(MOST_WISHES);
        private final Row values = new Row(MOST_WISHES);
        private final Row cells = new Row(MOST_WISHES); // that are above the place in the hours of the wish
        private final Row needs = new Row(MOST_WISHES); // in which of these a square must hang: all or none
        private final Row owed = new Row(CELLS);
        private final Row room = new Row(ROWS); // how many squares a row may have
        private int squares;
        private int wishCount;
        private int owedPlaces;

        Lease() {
            clear();
        }

        void clear() {
            squares = 0;
            wishCount = 0;
            owedPlaces = 0;
            owed.fill(0);
            room.fill(HOURS);
        }

        void addSquare(int cell) {
            squares |= 1 << cell;
        }

        void addWish(int place, int firstHour, int span, int value, boolean dark) {
            int above = 0;
            for (int i = 0; i < span; i++) {
                above |= 1 << cellAbove(place, (firstHour + i) % HOURS);
            }
            places.put(wishCount, place);
            firstHours.put(wishCount, firstHour);
            spans.put(wishCount, span);
            values.put(wishCount, value);
            cells.put(wishCount, above);
            needs.put(wishCount, dark ? above : 0);
            wishCount++;
        }

        /** All cells of its row come over a place in a day: it is dark as many hours as squares hang there. */
        void addOwed(int place, int hours) {
            int row = place / COLUMNS;
            owedPlaces |= 1 << place;
            owed.put(place, hours);
            room.put(row, Math.min(room.at(row), HOURS - hours));
        }

        int squares() {
            return squares;
        }

        int wishCount() {
            return wishCount;
        }

        int allWishes() {
            return (1 << wishCount) - 1;
        }

        int owedPlaces() {
            return owedPlaces;
        }

        int owedCount() {
            return Integer.bitCount(owedPlaces);
        }

        int owedTo(int place) {
            return owed.at(place);
        }

        int placeOf(int wish) {
            return places.at(wish);
        }

        int firstHourOf(int wish) {
            return firstHours.at(wish);
        }

        int spanOf(int wish) {
            return spans.at(wish);
        }

        int valueOf(int wish) {
            return values.at(wish);
        }

        boolean wantsDark(int wish) {
            return needs.at(wish) != 0;
        }

        int hoursOf(int wish) {
            int hours = 0;
            for (int i = 0; i < spans.at(wish); i++) {
                hours |= 1 << (firstHours.at(wish) + i) % HOURS;
            }
            return hours;
        }

        int grantedBy(int hanging) {
            int granted = 0;
            for (int wish = 0; wish < wishCount; wish++) {
                if ((hanging & cells.at(wish)) == needs.at(wish)) {
                    granted |= 1 << wish;
                }
            }
            return granted;
        }

        int sumOf(int wishes) {
            int sum = 0;
            for (int wish = 0; wish < wishCount; wish++) {
                sum += has(wishes, wish) ? values.at(wish) : 0;
            }
            return sum;
        }

        int worthOf(int hanging) {
            return sumOf(grantedBy(hanging));
        }

        boolean allows(int hanging) {
            return Integer.bitCount(hanging & ONE_ROW) <= room.at(0)
                && Integer.bitCount(hanging >> COLUMNS) <= room.at(1);
        }
    }

    /** Takes a text letter by letter into a lease, as far as a letting can go so. */
    private static final class Reader {
        private static final int HEAD = 0, BETWEEN = 1, SQUARE = 2, WISH = 3, OWED = 4;
        private static final int FROM_0_TO_9 = (1 << 10) - 1;

        private final Lease lease;
        private int part; // of the text, in which the next letter is
        private int come; // letters of the part that have come behind its first one
        private int number; // of its cell or place
        private int firstHour;
        private int span;
        private int value;

        Reader(Lease lease) {
            this.lease = lease;
        }

        /** The place of the first letter that can not be; the length, if the end is missing; NONE. */
        int readThrough(Text text) {
            lease.clear();
            part = HEAD;
            for (int i = 0; i < text.length(); i++) {
                if (!takes(text.letterAt(i))) {
                    return i;
                }
            }
            return part == BETWEEN ? NONE : text.length();
        }

        private boolean takes(int letter) {
            switch (part) {
                case HEAD:
                    part = BETWEEN;
                    return letter == 'N';
                case BETWEEN:
                    come = 0;
                    return takesFirst(letter);
                case SQUARE:
                    come++;
                    return takesOfSquare(letter);
                case WISH:
                    come++;
                    return takesOfWish(letter);
                default:
                    come++;
                    return takesOfOwed(letter);
            }
        }

        private boolean takesFirst(int letter) {
            switch (letter) {
                case 'H':
                    part = SQUARE;
                    return Integer.bitCount(lease.squares()) < MOST_SQUARES;
                case 'W':
                    part = WISH;
                    return lease.wishCount() < MOST_WISHES;
                case 'O':
                    part = OWED;
                    return lease.owedCount() < MOST_OWED;
                default:
                    return false;
            }
        }

        private boolean takesOfSquare(int letter) {
            if (!takesOfNumber(letter, lease.squares())) {
                return false;
            }
            if (come == 2) {
                lease.addSquare(number);
                part = BETWEEN;
            }
            return true;
        }

        private boolean takesOfWish(int letter) {
            int figure = letter - '0';
            switch (come) {
                case 1:
                case 2:
                    return takesOfNumber(letter, 0);
                case 3:
                    firstHour = figure;
                    return figure >= 0 && figure <= 5;
                case 4:
                    span = figure;
                    return figure >= 1 && figure <= 6;
                case 5:
                    value = figure;
                    return figure >= 1 && figure <= 9;
                default:
                    return takesLastOfWish(letter);
            }
        }

        private boolean takesLastOfWish(int letter) {
            if (letter != 'd' && letter != 'l') {
                return false;
            }
            lease.addWish(number, firstHour, span, value, letter == 'd');
            part = BETWEEN;
            return true;
        }

        private boolean takesOfOwed(int letter) {
            if (come < 3) {
                return takesOfNumber(letter, lease.owedPlaces());
            }
            int figure = letter - '0';
            if (figure < 1 || figure > HOURS) {
                return false;
            }
            lease.addOwed(number, figure);
            part = BETWEEN;
            return true;
        }

        /** A figure of a number from 00 to 11 that is not gone; the first one, if such a number has it. */
        private boolean takesOfNumber(int letter, int gone) {
            int figure = letter - '0';
            if (come == 1) {
                int begunWith = figure == 0 ? FROM_0_TO_9 : figure == 1 ? ALL_CELLS & ~FROM_0_TO_9 : 0;
                number = 10 * figure;
                return (begunWith & ~gone) != 0;
            }
            number += figure;
            return figure >= 0 && figure <= 9 && number < CELLS && !has(gone, number);
        }
    }

    /** What lawful hangings of a lease can do. It looks at all of them once, when it is first asked. */
    private static final class Survey {
        private static final int SIZES = MOST_SQUARES + 1;
        private static final int WISH_SETS = 1 << MOST_WISHES;
        private static final int NO_WORTH = -1; // less than any hanging has

        private final Lease lease;
        private final Row lawful = new Row(SIZES); // how many of just n squares
        private final Row grants = new Row(SIZES); // bit g: one of n or fewer grants just the wishes of bits g
        private final Row bests = new Row(SIZES); // of n squares or fewer; NONE, if there is none
        private final Row mosts = new Row(SIZES); // the worth of these
        private boolean isMade;

        Survey(Lease lease) {
            this.lease = lease;
        }

        void forget() {
            isMade = false;
        }

        int lawfulOf(int n) {
            make();
            return lawful.at(n);
        }

        int bestOf(int n) {
            make();
            return bests.at(n);
        }

        boolean canGrant(int n, int wishes) {
            make();
            for (int granted = 0; granted < WISH_SETS; granted++) {
                if (has(grants.at(n), granted) && (wishes & ~granted) == 0) {
                    return true;
                }
            }
            return false;
        }

        /** The most that these wishes can have, if no others count. */
        int mostWorth(int n, int wishes) {
            make();
            int most = 0;
            for (int granted = 0; granted < WISH_SETS; granted++) {
                if (has(grants.at(n), granted)) {
                    most = Math.max(most, lease.sumOf(granted & wishes));
                }
            }
            return most;
        }

        private void make() {
            if (isMade) {
                return;
            }
            isMade = true;
            lawful.fill(0);
            grants.fill(0);
            bests.fill(NONE);
            mosts.fill(NO_WORTH);
            for (int hanging = 0; hanging < HANGINGS; hanging++) {
                if (isHanging(hanging) && lease.allows(hanging)) {
                    enter(hanging);
                }
            }
            for (int n = 1; n < SIZES; n++) {
                addThoseOfFewer(n);
            }
        }

        /** Hangings come by rising bits, so of like ones the first stays the best. */
        private void enter(int hanging) {
            int n = Integer.bitCount(hanging);
            int granted = lease.grantedBy(hanging);
            int worth = lease.sumOf(granted);
            lawful.put(n, lawful.at(n) + 1);
            grants.put(n, grants.at(n) | 1 << granted);
            if (worth > mosts.at(n)) {
                mosts.put(n, worth);
                bests.put(n, hanging);
            }
        }

        private void addThoseOfFewer(int n) {
            grants.put(n, grants.at(n) | grants.at(n - 1));
            if (mosts.at(n - 1) >= mosts.at(n)) {
                mosts.put(n, mosts.at(n - 1));
                bests.put(n, bests.at(n - 1));
            }
        }
    }

    /**
     * The ways from a hanging to another. Squares are alike: where one would come upon another, that one goes
     * on in its stead, so none waits, and the fewest moves are those of the best pairing of starts and goals.
     */
    private static final class Paths {
        private static final int FAR = 1000;

        private final Row starts = new Row(MOST_SQUARES);
        private final Row goals = new Row(MOST_SQUARES);
        private final Row fewest = new Row(1 << MOST_SQUARES); // for the first starts to come to a set of goals

        int fewestMoves(int from, int to) {
            int squares = list(from, starts);
            list(to, goals);
            int all = (1 << squares) - 1;
            fewest.put(0, 0);
            for (int reached = 1; reached <= all; reached++) {
                int last = starts.at(Integer.bitCount(reached) - 1);
                fewest.put(reached, fewestWith(last, reached, squares));
            }
            return fewest.at(all);
        }

        private int fewestWith(int last, int reached, int squares) {
            int moves = FAR;
            for (int goal = 0; goal < squares; goal++) {
                if (has(reached, goal)) {
                    int others = fewest.at(reached & ~(1 << goal));
                    moves = Math.min(moves, others + distance(last, goals.at(goal)));
                }
            }
            return moves;
        }

        private static int list(int hanging, Row into) {
            int listed = 0;
            for (int cell = 0; cell < CELLS; cell++) {
                if (has(hanging, cell)) {
                    into.put(listed, cell);
                    listed++;
                }
            }
            return listed;
        }

        private static int distance(int one, int other) {
            int columns = Math.abs(one % COLUMNS - other % COLUMNS);
            int rows = Math.abs(one / COLUMNS - other / COLUMNS);
            return Math.min(columns, COLUMNS - columns) + rows;
        }
    }
}
