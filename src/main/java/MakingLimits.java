import java.util.Arrays;

/** Makers' limits, read from texts, and what they mean for one board: ../shared/DOC.md has the promises. */
public final class MakingLimits {
    public static final int NONE = -1;

    private static final int MAKERS = 4;
    private static final int CLASSES = 4;
    private static final int KINDS = 6;
    private static final int STEPS = 4;
    private static final int LAYERS = 8;
    private static final int MILLION = 1_000_000;

    private final Text text;
    private final Offer[] offers;
    private int told;
    private final Board board;
    private final Remarks remarks;
    private final Quotes quotes;
    private final Orders orders;
    private final Cells cells;

    public MakingLimits() {
        text = new Text();
        offers = new Offer[MAKERS];
        told = 0;
        board = new Board();
        remarks = new Remarks();
        quotes = new Quotes();
        orders = new Orders();
        cells = new Cells();
    }

    public boolean unit(int u) {
        return text.add(u);
    }

    public int maker() {
        int number = text.readNumber(told);
        Offer offer = number == NONE ? null : text.readOffer();
        int answer = number;
        if (offer == null) {
            answer = -1 - text.place();
        } else {
            keepOffer(number, offer);
        }
        text.forget();
        return answer;
    }

    public int thing(int kind, long v, int layer) throws IndexOutOfBoundsException, IllegalArgumentException {
        if (kind < 0 || kind >= KINDS || isNoLayer(layer)) {
            throw new IndexOutOfBoundsException("no such KIND, or layer");
        }
        if (v < 0 || v > MILLION) {
            throw new IllegalArgumentException("no value");
        }
        return board.add(kind, (int) v, layer);
    }

    public boolean at(int thing, long x, long y) throws IndexOutOfBoundsException, IllegalArgumentException {
        if (board.hasNo(thing)) {
            throw new IndexOutOfBoundsException("no such THING");
        }
        if (x < -MILLION || x > MILLION || y < -MILLION || y > MILLION) {
            throw new IllegalArgumentException("no place");
        }
        return board.move(thing, (int) x, (int) y);
    }

    public int run(int maker, int cls) throws IndexOutOfBoundsException {
        return remarks.collect(board, gradeOf(maker, cls));
    }

    public int remark(int k, int what) throws IndexOutOfBoundsException {
        if (what < 0 || what > 5) {
            throw new IndexOutOfBoundsException("no such part of a REMARK");
        }
        int thing = remarks.thingOf(k);
        if (thing == NONE) {
            return NONE;
        }
        switch (what) {
            case 0:
                return thing;
            case 2:
                return remarks.excessOf(k);
            default:
                return board.part(thing, what);
        }
    }

    public int least(int maker) throws IndexOutOfBoundsException {
        return offerOf(maker).leastFor(board);
    }

    public long price(int maker, int cls, long quantity) throws IndexOutOfBoundsException, IllegalArgumentException {
        Grade grade = gradeOf(maker, cls);
        checkQuantity(quantity);
        return grade.priceOf(quantity);
    }

    public long share(long cents, long quantity, int k) throws IndexOutOfBoundsException, IllegalArgumentException {
        if (quantity < 1 || quantity > MILLION || cents < 0) {
            throw new IllegalArgumentException("no such quantity, or cents");
        }
        if (k < 0 || k >= quantity) {
            throw new IndexOutOfBoundsException("no such share");
        }
        long leftOver = cents % quantity;
        return cents / quantity + (k < leftOver ? 1 : 0);
    }

    public long balance(int layer, int cell, int part) throws IndexOutOfBoundsException {
        if (isNoLayer(layer) || Cells.isNoCell(cell) || part < 0 || part > 1) {
            throw new IndexOutOfBoundsException("no such layer, cell or part");
        }
        long above = cells.aboveMean(layer, cell);
        long divisor = commonDivisor(Math.abs(above), Cells.MEAN_UNITS);
        return (part == 0 ? above : Cells.MEAN_UNITS) / divisor;
    }

    public int quote(int maker, long until) throws IndexOutOfBoundsException {
        return quotes.add(maker, offerOf(maker), until);
    }

    public boolean copper(int layer, int cell, long above, long below)
            throws IndexOutOfBoundsException, IllegalArgumentException {
        if (isNoLayer(layer) || Cells.isNoCell(cell)) {
            throw new IndexOutOfBoundsException("no such layer, or cell");
        }
        if (below < 1 || below > Cells.MOST_BELOW || above < 0 || above > below) {
            throw new IllegalArgumentException("no such copper");
        }
        return cells.tell(layer, cell, (int) above, (int) below);
    }

    public int best(long quantity) throws IllegalArgumentException {
        checkQuantity(quantity);
        int best = NONE;
        long lowest = 0;
        for (int maker = 0; maker < MAKERS; maker++) {
            Offer offer = offers[maker];
            Grade grade = offer == null ? null : offer.gradeAt(offer.leastFor(board));
            if (grade != null && (best == NONE || grade.priceOf(quantity) < lowest)) {
                best = maker;
                lowest = grade.priceOf(quantity);
            }
        }
        return best;
    }

    public int order(int maker, long quantity, long day) throws IndexOutOfBoundsException, IllegalArgumentException {
        Offer own = offerOf(maker);
        checkQuantity(quantity);
        int quote = quotes.latest(maker, day);
        Offer quoted = quotes.offerAt(quote);
        Offer offer = quoted == null ? own : quoted;
        int cls = offer.leastFor(board);
        Grade grade = offer.gradeAt(cls);
        if (grade == null) {
            return NONE;
        }
        return orders.add(maker, cls, (int) quantity, grade.days, grade.priceOf(quantity), quote);
    }

    public int history(int k, int what) throws IndexOutOfBoundsException {
        if (orders.hasNo(k) || what < 0 || what >= Orders.PARTS) {
            throw new IndexOutOfBoundsException("no such order, or part of it");
        }
        return orders.part(k, what);
    }

    public void clear() {
        text.forget();
        for (int i = 0; i < MAKERS; i++) {
            offers[i] = null;
        }
        told = 0;
        board.forget();
        remarks.forget();
        quotes.forget();
        orders.forget();
        cells.forget();
    }

    private void keepOffer(int number, Offer offer) {
        if (number < 0 || number >= MAKERS) {
            return;
        }
        offers[number] = offer;
        told = Math.max(told, number + 1);
    }

    private Offer offerOf(int maker) {
        Offer offer = maker < 0 || maker >= MAKERS ? null : offers[maker];
        if (offer == null) {
            throw new IndexOutOfBoundsException("no such MAKER");
        }
        return offer;
    }

    private Grade gradeOf(int maker, int cls) {
        Grade grade = offerOf(maker).gradeAt(cls);
        if (grade == null) {
            throw new IndexOutOfBoundsException("no such CLASS");
        }
        return grade;
    }

    private static void checkQuantity(long quantity) {
        if (quantity < 1 || quantity > MILLION) {
            throw new IllegalArgumentException("no such quantity");
        }
    }

    private static boolean isNoLayer(int layer) {
        return layer < 0 || layer >= LAYERS;
    }

    /** At least 1, so that it may divide. */
    private static long commonDivisor(long a, long b) {
        long greater = a;
        long rest = b;
        // Euclid's rests of longs are through in fewer than 100 rounds.
        for (int i = 0; i < 100 && rest != 0; i++) {
            long next = greater % rest;
            greater = rest;
            rest = next;
        }
        return Math.max(greater, 1);
    }

    /** A CLASS. */
    private static final class Grade {
        private static final int MOST_DAYS = 1000;
        private static final int KINDS_FROM_BELOW = 4;

        private final int[] limits = new int[KINDS];
        private final int[] froms = new int[STEPS];
        private final int[] cents = new int[STEPS];
        private int steps;
        private int days;
        // A text's fault in a CLASS counts only when its semicolon has come, so it is kept till then.
        private boolean canBe = true;

        void setLimit(int kind, int limit) {
            if (kind < 0 || kind >= KINDS || limit > MILLION) {
                canBe = false;
                return;
            }
            limits[kind] = limit;
        }

        void addStep(int from, int price) {
            int ahead = steps == 0 ? 0 : froms[steps - 1];
            if (steps >= STEPS || from <= ahead || from > MILLION || price < 1 || price > MILLION) {
                canBe = false;
                return;
            }
            froms[steps] = from;
            cents[steps] = price;
            steps++;
        }

        void setDays(int count) {
            if (count > MOST_DAYS) {
                canBe = false;
                return;
            }
            days = count;
        }

        /** By how much a THING is BEYOND; 0 or less when it is not. */
        int excess(int kind, int value) {
            if (kind < 0 || kind >= KINDS) {
                return 0;
            }
            int over = value - limits[kind];
            return kind < KINDS_FROM_BELOW ? -over : over;
        }

        long priceOf(long quantity) {
            // Below the first STEP its from is paid, which is the price of that very quantity.
            long paid = Math.max(quantity, froms[0]);
            long each = cents[0];
            for (int i = 1; i < steps; i++) {
                if (froms[i] <= paid) {
                    each = cents[i];
                }
            }
            return paid * each;
        }
    }

    /** The CLASSES of a MAKER. It never changes once it is read, so that a quote can hold it. */
    private static final class Offer {
        private final Grade[] grades = new Grade[CLASSES];
        private int count;

        boolean add(Grade grade) {
            if (count >= CLASSES) {
                return false;
            }
            grades[count] = grade;
            count++;
            return true;
        }

        Grade gradeAt(int cls) {
            return cls < 0 || cls >= count ? null : grades[cls];
        }

        int leastFor(Board board) {
            for (int cls = 0; cls < count; cls++) {
                Grade grade = gradeAt(cls);
                if (grade != null && board.isMadeBy(grade)) {
                    return cls;
                }
            }
            return NONE;
        }
    }

    /** The text, and its reading: a reading that fails leaves its place at the character that is told. */
    private static final class Text {
        private static final int MOST = 400;
        private static final int MOST_DIGITS = 7;
        private static final int END = -1;

        private final char[] characters = new char[MOST];
        private int length;
        private int place;

        boolean add(int character) {
            if (character < 32 || character > 126 || length >= MOST) {
                return false;
            }
            characters[length] = (char) character;
            length++;
            return true;
        }

        void forget() {
            length = 0;
        }

        int place() {
            return place;
        }

        /** M and the MAKER's number; NONE when it fails. */
        int readNumber(int told) {
            place = 0;
            if (!passes('M') || !isDigit(next())) {
                return NONE;
            }
            int number = next() - '0';
            if (number > told || number >= MAKERS) {
                place = 0;
                return NONE;
            }
            place++;
            return number;
        }

        /** The CLASSES up to the text's end; null when it fails. */
        Offer readOffer() {
            Offer offer = new Offer();
            // One CLASS too many is read, for its fault is told only behind its semicolon.
            for (int i = 0; i <= CLASSES; i++) {
                int start = place;
                Grade grade = readGrade();
                if (grade == null) {
                    return null;
                }
                if (!grade.canBe || !offer.add(grade)) {
                    place = start;
                    return null;
                }
                if (place >= length) {
                    return offer;
                }
            }
            return null;
        }

        private Grade readGrade() {
            if (!passes('C')) {
                return null;
            }
            Grade grade = new Grade();
            boolean whole = readLimits(grade) && passes(':')
                    && readSteps(grade) && passes('/')
                    && readDays(grade) && passes(';');
            return whole ? grade : null;
        }

        private boolean readLimits(Grade grade) {
            for (int kind = 0; kind < KINDS; kind++) {
                if (kind > 0 && !passes(',')) {
                    return false;
                }
                int limit = readWhole();
                if (limit == NONE) {
                    return false;
                }
                grade.setLimit(kind, limit);
            }
            return true;
        }

        private boolean readSteps(Grade grade) {
            for (int i = 0; i < MOST; i++) {
                int from = readWhole();
                if (from == NONE || !passes('@')) {
                    return false;
                }
                int cents = readWhole();
                if (cents == NONE) {
                    return false;
                }
                grade.addStep(from, cents);
                if (!passes(',')) {
                    return true;
                }
            }
            return false;
        }

        private boolean readDays(Grade grade) {
            int days = readWhole();
            if (days == NONE) {
                return false;
            }
            grade.setDays(days);
            return true;
        }

        private int readWhole() {
            if (!isDigit(next())) {
                return NONE;
            }
            int value = 0;
            for (int i = 0; i < MOST_DIGITS && isDigit(next()); i++) {
                value = value * 10 + (next() - '0');
                place++;
            }
            return value;
        }

        private boolean passes(char due) {
            if (next() != due) {
                return false;
            }
            place++;
            return true;
        }

        private int next() {
            return place < 0 || place >= length ? END : characters[place];
        }

        private static boolean isDigit(int character) {
            return character >= '0' && character <= '9';
        }
    }

    /** The THINGS. */
    private static final class Board {
        private static final int MOST = 60;

        private final int[] kinds = new int[MOST];
        private final int[] values = new int[MOST];
        private final int[] layers = new int[MOST];
        private final int[] xs = new int[MOST];
        private final int[] ys = new int[MOST];
        private int count;

        int add(int kind, int value, int layer) {
            if (count >= MOST) {
                return NONE;
            }
            kinds[count] = kind;
            values[count] = value;
            layers[count] = layer;
            xs[count] = 0;
            ys[count] = 0;
            count++;
            return count - 1;
        }

        boolean hasNo(int thing) {
            return thing < 0 || thing >= count;
        }

        boolean move(int thing, int x, int y) {
            if (hasNo(thing)) {
                return false;
            }
            boolean other = xs[thing] != x || ys[thing] != y;
            xs[thing] = x;
            ys[thing] = y;
            return other;
        }

        int excess(int thing, Grade grade) {
            return hasNo(thing) ? 0 : grade.excess(kinds[thing], values[thing]);
        }

        boolean isMadeBy(Grade grade) {
            for (int thing = 0; thing < count; thing++) {
                if (excess(thing, grade) > 0) {
                    return false;
                }
            }
            return true;
        }

        /** Numbered as remark() numbers them. */
        int part(int thing, int what) {
            if (hasNo(thing)) {
                return NONE;
            }
            switch (what) {
                case 1:
                    return kinds[thing];
                case 3:
                    return layers[thing];
                case 4:
                    return xs[thing];
                case 5:
                    return ys[thing];
                default:
                    return NONE;
            }
        }

        void forget() {
            count = 0;
        }
    }

    /** The REMARKS of the latest run(). */
    private static final class Remarks {
        private final int[] things = new int[Board.MOST];
        private final int[] excesses = new int[Board.MOST];
        private int count;

        int collect(Board board, Grade grade) {
            count = 0;
            for (int thing = 0; thing < Board.MOST; thing++) {
                int excess = board.excess(thing, grade);
                if (excess > 0) {
                    things[count] = thing;
                    excesses[count] = excess;
                    count++;
                }
            }
            return count;
        }

        int thingOf(int k) {
            return k < 0 || k >= count ? NONE : things[k];
        }

        int excessOf(int k) {
            return k < 0 || k >= count ? NONE : excesses[k];
        }

        void forget() {
            count = 0;
        }
    }

    private static final class Quotes {
        private static final int MOST = 10;

        private final int[] makers = new int[MOST];
        private final Offer[] offers = new Offer[MOST];
        private final long[] untils = new long[MOST];
        private int count;

        int add(int maker, Offer offer, long until) {
            if (count >= MOST) {
                return NONE;
            }
            makers[count] = maker;
            offers[count] = offer;
            untils[count] = until;
            count++;
            return count - 1;
        }

        int latest(int maker, long day) {
            for (int i = count - 1; i >= 0; i--) {
                if (makers[i] == maker && untils[i] >= day) {
                    return i;
                }
            }
            return NONE;
        }

        Offer offerAt(int quote) {
            return quote < 0 || quote >= count ? null : offers[quote];
        }

        void forget() {
            count = 0;
        }
    }

    private static final class Orders {
        private static final int MOST = 20;
        private static final int PARTS = 7;
        private static final int THOUSAND = 1000;

        /** Row by row, each numbered as history() numbers its parts. */
        private final int[] parts = new int[MOST * PARTS];
        private int count;

        int add(int maker, int cls, int quantity, int days, long price, int quote) {
            if (count >= MOST) {
                return NONE;
            }
            int row = count * PARTS;
            parts[row] = maker;
            parts[row + 1] = cls;
            parts[row + 2] = quantity;
            parts[row + 3] = days;
            // A PRICE does not fit an int, but its thousands do.
            parts[row + 4] = (int) (price / THOUSAND);
            parts[row + 5] = (int) (price % THOUSAND);
            parts[row + 6] = quote;
            count++;
            return count - 1;
        }

        boolean hasNo(int order) {
            return order < 0 || order >= count;
        }

        int part(int order, int what) {
            return hasNo(order) || what < 0 || what >= PARTS ? NONE : parts[order * PARTS + what];
        }

        void forget() {
            count = 0;
        }
    }

    /** The copper of all cells, each as it was told. */
    private static final class Cells {
        private static final int PER_LAYER = 16;
        private static final int MOST_BELOW = 10;
        /** All of 1 .. 10 divide it, so that every cell is a whole number of its parts. */
        private static final int UNITS = 2520;
        private static final long MEAN_UNITS = (long) UNITS * PER_LAYER;

        private final int[] aboves = new int[LAYERS * PER_LAYER];
        private final int[] belows = new int[LAYERS * PER_LAYER];

        Cells() {
            Arrays.fill(belows, 1);
        }

        static boolean isNoCell(int cell) {
            return cell < 0 || cell >= PER_LAYER;
        }

        boolean tell(int layer, int cell, int above, int below) {
            if (isNoLayer(layer) || isNoCell(cell)) {
                return false;
            }
            int i = layer * PER_LAYER + cell;
            boolean otherwise = aboves[i] != above || belows[i] != below;
            aboves[i] = above;
            belows[i] = below;
            return otherwise;
        }

        /** What the cell has above the mean of its layer, in parts of which MEAN_UNITS are the whole. */
        long aboveMean(int layer, int cell) {
            long sum = 0;
            for (int i = 0; i < PER_LAYER; i++) {
                sum += units(layer, i);
            }
            return PER_LAYER * units(layer, cell) - sum;
        }

        private long units(int layer, int cell) {
            if (isNoLayer(layer) || isNoCell(cell)) {
                return 0;
            }
            int i = layer * PER_LAYER + cell;
            int below = belows[i];
            return below < 1 ? 0 : (long) aboves[i] * (UNITS / below);
        }

        void forget() {
            Arrays.fill(aboves, 0);
            Arrays.fill(belows, 1);
        }
    }
}
