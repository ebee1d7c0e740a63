/** Shelves of a postmaster on which letters are told by bits of their weights. */
public final class LetterShelves {
    public static final int NONE = -11;
    public static final int BAD = -12;
    public static final int FULL = -13;
    public static final int REFUSED = -14;
    public static final int NOTHING = -15;

    private static final int MOST_LETTERS = 64;
    private static final int WEIGHTS = 32;
    private static final int ROWS = 5;
    private static final int BLOCK = 8;
    private static final int MOST_UNDONE = 8;
    private static final int MOST_CHARACTERS = 60;
    private static final int MOST_ORDERS = 10;
    private static final int MOST_IN_LINE = 128;

    private static final int ROW_IS_FULL = 1;
    private static final int SAME_WEIGHT = 2;
    private static final int SO_ALREADY = 3;
    private static final int ORDER_FAILS = 4;

    private final Letters letters = new Letters();
    private final Letters trial = new Letters();
    private final Letters snapshot = new Letters();
    private boolean isSaved;
    private final Past past = new Past();
    private final Rows rows = new Rows();
    private final Bags bags = new Bags();
    private final Tally tally = new Tally();
    private final Sizes sizes = new Sizes();
    private final Text text = new Text();
    private final Line line = new Line();
    private int latestReason;
    private int latestDetail;

    public LetterShelves() {
    }

    // ---- letters

    public int put(int weight) {
        if (!isWeight(weight)) {
            return BAD;
        }
        if (letters.isFull()) {
            return refuse(ROW_IS_FULL, MOST_LETTERS);
        }
        past.keep(letters);
        letters.come(letters.size(), weight);
        follow();
        return letters.size() - 1;
    }

    public int insert(int place, int weight) {
        if (place < 0 || place > letters.size()) {
            return NONE;
        }
        if (!isWeight(weight)) {
            return BAD;
        }
        if (letters.isFull()) {
            return refuse(ROW_IS_FULL, MOST_LETTERS);
        }
        past.keep(letters);
        letters.come(place, weight);
        follow();
        return letters.size();
    }

    public int take(int place) {
        if (!letters.has(place)) {
            return NONE;
        }
        int taken = letters.at(place);
        past.keep(letters);
        letters.leave(place);
        follow();
        return taken;
    }

    public int swap(int place) {
        if (!letters.hasNext(place)) {
            return NONE;
        }
        if (letters.at(place) == letters.at(place + 1)) {
            return refuse(SAME_WEIGHT, letters.at(place));
        }
        past.keep(letters);
        letters.exchange(place);
        follow();
        return letters.at(place);
    }

    public int mark(int place, boolean isMarked) {
        if (!isMarkPlace(place)) {
            return NONE;
        }
        if (letters.isMarkedAt(place) == isMarked) {
            return refuse(SO_ALREADY, place);
        }
        past.keep(letters);
        letters.setMark(place, isMarked);
        follow();
        return letters.marked();
    }

    public int weight(int place) {
        return letters.has(place) ? letters.at(place) : NONE;
    }

    public int weightAgain(int place) {
        return letters.has(place) ? rows.weightOf(place) : NONE;
    }

    // ---- rows

    public int bit(int row, int place) {
        return isRow(row) && letters.has(place) ? rows.bitAt(row, place) : NONE;
    }

    public long bits(int row) {
        return rows.wholeRow(row);
    }

    public int rank(int row, boolean isOne, int place) {
        return isRow(row) && isEdge(place) ? rows.ahead(row, isOne, place) : NONE;
    }

    public int rankAgain(int row, boolean isOne, int place) {
        return isRow(row) && isEdge(place) ? rows.aheadOneByOne(row, isOne, place) : NONE;
    }

    public int select(int row, boolean isOne, int ahead) {
        if (!isRow(row)) {
            return NONE;
        }
        int place = rows.placeOf(row, isOne, ahead);
        return place < 0 ? NOTHING : place;
    }

    public int placeIn(int row, int place) {
        return isRow(row) && letters.has(place) ? rows.placeDownTo(row, place) : NONE;
    }

    // ---- parts

    public int quantile(int from, int to, int place) {
        return isPlaceOfPart(from, to, place) ? rows.weightBySize(from, to, place) : NONE;
    }

    public int quantileAgain(int from, int to, int place) {
        if (!isPlaceOfPart(from, to, place)) {
            return NONE;
        }
        sizes.fill(letters, from, to);
        return sizes.at(place);
    }

    public int count(int from, int to, int weight) {
        if (!isPart(from, to)) {
            return NONE;
        }
        return isWeight(weight) ? rows.numberOf(from, to, weight) : BAD;
    }

    public int lighter(int from, int to, int weight) {
        if (!isPart(from, to)) {
            return NONE;
        }
        return isWeight(weight) ? rows.numberBelow(from, to, weight) : BAD;
    }

    public int atLeast(int from, int to, int weight) {
        if (!isPart(from, to)) {
            return NONE;
        }
        if (!isWeight(weight)) {
            return BAD;
        }
        int below = rows.numberBelow(from, to, weight);
        return below < to - from ? rows.weightBySize(from, to, below) : NOTHING;
    }

    public int find(int weight, int ahead) {
        if (!isWeight(weight)) {
            return BAD;
        }
        int place = rows.placeBack(weight, ahead);
        return place < 0 ? NOTHING : place;
    }

    public int common(int from, int to, int place) {
        if (!isPart(from, to)) {
            return NONE;
        }
        tally.fill(letters, from, to);
        int found = tally.byNumber(place);
        return found < 0 ? NONE : found;
    }

    // ---- bags

    public int bagOf(int bag, int what) {
        if (bag < 0 || bag >= bags.number()) {
            return NONE;
        }
        int begin = bags.beginOf(bag);
        int end = bags.endOf(bag);
        switch (what) {
            case 0:
                return begin;
            case 1:
                return end - begin;
            case 2:
                return bags.totalOf(bag);
            case 3:
                return rows.weightBySize(begin, end, (end - begin - 1) / 2);
            case 4:
                return rows.weightBySize(begin, end, end - begin - 1);
            case 5:
                tally.fill(letters, begin, end);
                return tally.unlike();
            default:
                return BAD;
        }
    }

    public int bagAt(int place) {
        return letters.has(place) ? bags.bagWith(place) : NONE;
    }

    public int ranked(int place) {
        int bag = bags.byTotal(place);
        return bag < 0 ? NONE : bag;
    }

    // ---- texts, lines

    public int append(int code) {
        if (code < 32 || code > 126) {
            return BAD;
        }
        if (text.isFull()) {
            return FULL;
        }
        text.add(code);
        return text.size();
    }

    public int run() {
        int fault = text.read();
        text.empty();
        if (fault >= 0) {
            return -1000 - fault;
        }
        int failed = tryOrders();
        if (failed >= 0) {
            return refuse(ORDER_FAILS, failed);
        }
        past.keep(letters);
        letters.becomeLike(trial);
        follow();
        return text.orders();
    }

    public int tell() {
        line.empty();
        for (int place = 0; place < letters.size(); place++) {
            if (place > 0 && letters.isMarkedAt(place)) {
                line.write('|');
            }
            line.write(digitOf(letters.at(place)));
        }
        return line.size();
    }

    public int tellRow(int row) {
        if (!isRow(row)) {
            return NONE;
        }
        line.empty();
        for (int place = 0; place < letters.size(); place++) {
            if (place > 0 && place % BLOCK == 0) {
                line.write(' ');
            }
            line.write('0' + rows.bitAt(row, place));
        }
        return line.size();
    }

    public int character(int index) {
        return index >= 0 && index < line.size() ? line.codeAt(index) : NONE;
    }

    // ---- reasons, accounts, undo and the snapshot

    public int reason(boolean isDetail) {
        if (latestReason == 0) {
            return NOTHING;
        }
        return isDetail ? latestDetail : latestReason;
    }

    public int account(int what) {
        switch (what) {
            case 0:
                return letters.size();
            case 1:
                return letters.total();
            case 2:
                return letters.came();
            case 3:
                return letters.left();
            case 4:
                return bags.number();
            case 5:
                return letters.marked();
            case 6:
                tally.fill(letters, 0, letters.size());
                return tally.unlike();
            case 7:
                return letters.swaps();
            case 8:
                return rows.onesOfAll();
            case 9:
                return text.size();
            case 10:
                return past.size();
            default:
                return BAD;
        }
    }

    public int isBalanced() {
        boolean isSo = letters.size() == letters.came() - letters.left()
                && areWeightsAlike() && areCountsAlike() && areSizesAlike()
                && lettersOfBags() == letters.size();
        return isSo ? 1 : 0;
    }

    public double meanWeight() {
        int size = letters.size();
        return size > 0 ? (double) letters.total() / (double) size : 0.0;
    }

    public float oneShare(int row) {
        int size = letters.size();
        return isRow(row) && size > 0 ? (float) rows.onesOf(row) / (float) size : 0.0f;
    }

    public int undo() {
        if (!past.giveBack(letters)) {
            return NOTHING;
        }
        follow();
        return past.size();
    }

    public int save() {
        snapshot.becomeLike(letters);
        isSaved = true;
        return letters.size();
    }

    public int restore() {
        if (!isSaved) {
            return NOTHING;
        }
        letters.becomeLike(snapshot);
        past.forget();
        follow();
        return letters.size();
    }

    // ---- what the calls share

    private static boolean isWeight(int weight) {
        return weight >= 0 && weight < WEIGHTS;
    }

    private static boolean isRow(int row) {
        return row >= 0 && row < ROWS;
    }

    private static boolean isMarkPlace(int place) {
        return place >= 1 && place < MOST_LETTERS;
    }

    private static boolean hasBit(int weight, int row) {
        return (weight >> (ROWS - 1 - row) & 1) == 1;
    }

    private static int digitOf(int weight) {
        return weight < 10 ? '0' + weight : 'a' + weight - 10;
    }

    private boolean isEdge(int place) {
        return place >= 0 && place <= letters.size();
    }

    private boolean isPart(int from, int to) {
        return from >= 0 && from <= to && to <= letters.size();
    }

    private boolean isPlaceOfPart(int from, int to, int place) {
        return isPart(from, to) && place >= 0 && place < to - from;
    }

    private int refuse(int why, int detail) {
        latestReason = why;
        latestDetail = detail;
        return REFUSED;
    }

    /** Rows and bags are held beside the letters, so they are made anew after each change. */
    private void follow() {
        rows.fill(letters);
        bags.fill(letters);
    }

    /** Carries the orders out on a copy; answers the order that fails, or -1. */
    private int tryOrders() {
        trial.becomeLike(letters);
        for (int order = 0; order < text.orders(); order++) {
            if (!trial.obey(text.kindOf(order), text.firstOf(order), text.secondOf(order))) {
                return order;
            }
        }
        return -1;
    }

    private boolean areWeightsAlike() {
        for (int place = 0; place < letters.size(); place++) {
            if (letters.at(place) != rows.weightOf(place)) {
                return false;
            }
        }
        return true;
    }

    private boolean areCountsAlike() {
        for (int row = 0; row < ROWS; row++) {
            for (int place = 0; place <= letters.size(); place += BLOCK) {
                if (rows.ahead(row, true, place) != rows.aheadOneByOne(row, true, place)
                        || rows.ahead(row, false, place) != rows.aheadOneByOne(row, false, place)) {
                    return false;
                }
            }
        }
        return true;
    }

    private boolean areSizesAlike() {
        int size = letters.size();
        sizes.fill(letters, 0, size);
        for (int place = 0; place < size; place++) {
            if (sizes.at(place) != rows.weightBySize(0, size, place)) {
                return false;
            }
        }
        return true;
    }

    private int lettersOfBags() {
        int sum = 0;
        for (int bag = 0; bag < bags.number(); bag++) {
            sum += bags.endOf(bag) - bags.beginOf(bag);
        }
        return sum;
    }

    /** All that changes can change: the letters, the marks and what happened so far. */
    private static final class Letters {
        private final int[] weights = new int[MOST_LETTERS];
        private int size;
        // bit k is the mark of the place k
        private long marks;
        private int came;
        private int left;
        private int swaps;

        int size() {
            return size;
        }

        int came() {
            return came;
        }

        int left() {
            return left;
        }

        int swaps() {
            return swaps;
        }

        int marked() {
            return Long.bitCount(marks);
        }

        boolean isFull() {
            return size >= MOST_LETTERS;
        }

        boolean has(int place) {
            return place >= 0 && place < size;
        }

        boolean hasNext(int place) {
            return place >= 0 && place < size - 1;
        }

        int at(int place) {
            return place >= 0 && place < weights.length ? weights[place] : 0;
        }

        boolean isMarkedAt(int place) {
            return isMarkPlace(place) && (marks >>> place & 1L) == 1L;
        }

        int total() {
            int sum = 0;
            for (int place = 0; place < size; place++) {
                sum += at(place);
            }
            return sum;
        }

        boolean come(int place, int weight) {
            if (place < 0 || place > size || !isWeight(weight) || isFull()) {
                return false;
            }
            for (int later = size; later > place; later--) {
                lay(later, at(later - 1));
            }
            lay(place, weight);
            size++;
            came++;
            return true;
        }

        boolean leave(int place) {
            if (!has(place)) {
                return false;
            }
            for (int earlier = place; earlier < size - 1; earlier++) {
                lay(earlier, at(earlier + 1));
            }
            size--;
            left++;
            return true;
        }

        boolean exchange(int place) {
            if (!hasNext(place) || at(place) == at(place + 1)) {
                return false;
            }
            int first = at(place);
            lay(place, at(place + 1));
            lay(place + 1, first);
            swaps++;
            return true;
        }

        boolean setMark(int place, boolean isMarked) {
            if (!isMarkPlace(place) || isMarkedAt(place) == isMarked) {
                return false;
            }
            marks ^= 1L << place;
            return true;
        }

        /** Carries out an order, which is told by its first character. */
        boolean obey(int kind, int first, int second) {
            switch (kind) {
                case 'p':
                    return come(size, first);
                case 'i':
                    return come(first, second);
                case 'o':
                    return leave(first);
                case 's':
                    return exchange(first);
                case 'm':
                    return setMark(first, true);
                case 'c':
                    return setMark(first, false);
                default:
                    return false;
            }
        }

        void becomeLike(Letters other) {
            if (other == null) {
                return;
            }
            size = other.size;
            marks = other.marks;
            came = other.came;
            left = other.left;
            swaps = other.swaps;
            for (int place = 0; place < size; place++) {
                lay(place, other.at(place));
            }
        }

        private void lay(int place, int weight) {
            if (place >= 0 && place < weights.length) {
                weights[place] = weight;
            }
        }
    }

    /** The letters as they stood ahead of the latest changes, in a ring. */
    private static final class Past {
        private final Letters[] kept = new Letters[MOST_UNDONE];
        private int first;
        private int size;

        Past() {
            for (int slot = 0; slot < kept.length; slot++) {
                kept[slot] = new Letters();
            }
        }

        int size() {
            return size;
        }

        void keep(Letters letters) {
            if (size == MOST_UNDONE) {
                first = (first + 1) % MOST_UNDONE;
                size--;
            }
            Letters slot = slotAt(size);
            if (slot != null) {
                slot.becomeLike(letters);
                size++;
            }
        }

        boolean giveBack(Letters letters) {
            if (size == 0) {
                return false;
            }
            size--;
            letters.becomeLike(slotAt(size));
            return true;
        }

        void forget() {
            size = 0;
        }

        private Letters slotAt(int age) {
            int slot = (first + age) % MOST_UNDONE;
            return slot >= 0 && slot < kept.length ? kept[slot] : null;
        }
    }

    /** The five rows of bits; a letter goes down from row to row, zeros first. */
    private static final class Rows {
        private static final int EDGES = MOST_LETTERS / BLOCK + 1;

        private final long[] wholes = new long[ROWS];
        // how many bits 1 are ahead of each block, and behind the last one
        private final int[][] onesAtBlocks = new int[ROWS][EDGES];
        private final int[] zeros = new int[ROWS];
        private final int[] order = new int[MOST_LETTERS];
        private final int[] nextOrder = new int[MOST_LETTERS];
        private int size;

        void fill(Letters letters) {
            size = letters.size();
            for (int place = 0; place < size && place < order.length; place++) {
                order[place] = letters.at(place);
            }
            for (int row = 0; row < ROWS; row++) {
                fillRow(row);
                sortByBit(row);
            }
        }

        private void fillRow(int row) {
            if (!isRow(row)) {
                return;
            }
            long whole = 0L;
            int ones = 0;
            for (int place = 0; place <= MOST_LETTERS; place++) {
                if (place % BLOCK == 0) {
                    onesAtBlocks[row][place / BLOCK] = ones;
                }
                if (place < size && place < order.length && hasBit(order[place], row)) {
                    whole |= 1L << place;
                    ones++;
                }
            }
            wholes[row] = whole;
            zeros[row] = size - ones;
        }

        private void sortByBit(int row) {
            int laid = gather(row, false, 0);
            gather(row, true, laid);
            for (int place = 0; place < size && place < order.length && place < nextOrder.length; place++) {
                order[place] = nextOrder[place];
            }
        }

        /** Lays the weights with a bit from a place on; answers the place behind them. */
        private int gather(int row, boolean isOne, int from) {
            int at = from;
            for (int place = 0; place < size && place < order.length; place++) {
                if (hasBit(order[place], row) == isOne && at >= 0 && at < nextOrder.length) {
                    nextOrder[at] = order[place];
                    at++;
                }
            }
            return at;
        }

        long wholeRow(int row) {
            return isRow(row) ? wholes[row] : 0L;
        }

        int bitAt(int row, int place) {
            return isRow(row) && place >= 0 && place < size ? (int) (wholes[row] >>> place & 1L) : 0;
        }

        int onesOf(int row) {
            return Long.bitCount(wholeRow(row));
        }

        int onesOfAll() {
            int sum = 0;
            for (int row = 0; row < ROWS; row++) {
                sum += onesOf(row);
            }
            return sum;
        }

        /** The count of a bit ahead of a place: block by block, and by what is left. */
        int ahead(int row, boolean isOne, int place) {
            if (!isRow(row) || place < 0 || place > size || place > MOST_LETTERS) {
                return 0;
            }
            int block = place / BLOCK;
            long left = (wholes[row] >>> block * BLOCK) & ((1L << place % BLOCK) - 1L);
            int ones = onesAtBlocks[row][block] + Long.bitCount(left);
            return isOne ? ones : place - ones;
        }

        /** The same count, place by place. */
        int aheadOneByOne(int row, boolean isOne, int place) {
            int sum = 0;
            for (int earlier = 0; earlier < place && earlier < size; earlier++) {
                if (isThere(row, isOne, earlier)) {
                    sum++;
                }
            }
            return sum;
        }

        private boolean isThere(int row, boolean isOne, int place) {
            return bitAt(row, place) == (isOne ? 1 : 0);
        }

        /** The place of a bit by how many of its kind are ahead, or -1. */
        int placeOf(int row, boolean isOne, int ahead) {
            if (ahead < 0 || ahead >= ahead(row, isOne, size)) {
                return -1;
            }
            int begin = 0;
            while (begin + BLOCK < size && ahead(row, isOne, begin + BLOCK) <= ahead) {
                begin += BLOCK;
            }
            int left = ahead - ahead(row, isOne, begin);
            for (int place = begin; place < size; place++) {
                if (isThere(row, isOne, place)) {
                    if (left == 0) {
                        return place;
                    }
                    left--;
                }
            }
            return -1;
        }

        private int zerosOf(int row) {
            return isRow(row) ? zeros[row] : 0;
        }

        /** Where, in the next row, those with a bit begin that are not ahead of a place. */
        private int down(int row, boolean isOne, int place) {
            int sum = ahead(row, isOne, place);
            return isOne ? zerosOf(row) + sum : sum;
        }

        int placeDownTo(int lastRow, int place) {
            int now = place;
            for (int row = 0; row < lastRow && row < ROWS; row++) {
                now = down(row, bitAt(row, now) == 1, now);
            }
            return now;
        }

        int weightOf(int place) {
            int sum = 0;
            int now = place;
            for (int row = 0; row < ROWS; row++) {
                int found = bitAt(row, now);
                sum = sum * 2 + found;
                now = down(row, found == 1, now);
            }
            return sum;
        }

        int weightBySize(int from, int to, int place) {
            int sum = 0;
            int begin = from;
            int end = to;
            int left = place;
            for (int row = 0; row < ROWS; row++) {
                int withZero = ahead(row, false, end) - ahead(row, false, begin);
                boolean isOne = left >= withZero;
                left -= isOne ? withZero : 0;
                sum = sum * 2 + (isOne ? 1 : 0);
                begin = down(row, isOne, begin);
                end = down(row, isOne, end);
            }
            return sum;
        }

        int numberOf(int from, int to, int weight) {
            return downAll(weight, to) - downAll(weight, from);
        }

        int numberBelow(int from, int to, int weight) {
            int sum = 0;
            int begin = from;
            int end = to;
            for (int row = 0; row < ROWS; row++) {
                boolean isOne = hasBit(weight, row);
                if (isOne) {
                    sum += ahead(row, false, end) - ahead(row, false, begin);
                }
                begin = down(row, isOne, begin);
                end = down(row, isOne, end);
            }
            return sum;
        }

        /** Follows the bits of a weight from a place of the first row through all rows. */
        private int downAll(int weight, int place) {
            int now = place;
            for (int row = 0; row < ROWS; row++) {
                now = down(row, hasBit(weight, row), now);
            }
            return now;
        }

        /** The place of a letter of a weight, from the last row back to the first, or -1. */
        int placeBack(int weight, int ahead) {
            int begin = downAll(weight, 0);
            if (ahead < 0 || ahead >= downAll(weight, size) - begin) {
                return -1;
            }
            int now = begin + ahead;
            for (int row = ROWS - 1; row >= 0; row--) {
                boolean isOne = hasBit(weight, row);
                now = placeOf(row, isOne, isOne ? now - zerosOf(row) : now);
            }
            return now;
        }
    }

    /** Where the bags begin, and their weights together. */
    private static final class Bags {
        private final int[] begins = new int[MOST_LETTERS];
        private final int[] totals = new int[MOST_LETTERS];
        private int number;
        private int letterCount;

        void fill(Letters letters) {
            number = 0;
            letterCount = letters.size();
            for (int place = 0; place < letterCount; place++) {
                if (place == 0 || letters.isMarkedAt(place)) {
                    open(place);
                }
                addToLatest(letters.at(place));
            }
        }

        private void open(int place) {
            if (number >= 0 && number < begins.length && number < totals.length) {
                begins[number] = place;
                totals[number] = 0;
                number++;
            }
        }

        private void addToLatest(int weight) {
            int latest = number - 1;
            if (latest >= 0 && latest < totals.length) {
                totals[latest] += weight;
            }
        }

        int number() {
            return number;
        }

        int beginOf(int bag) {
            return bag >= 0 && bag < number && bag < begins.length ? begins[bag] : letterCount;
        }

        int endOf(int bag) {
            return beginOf(bag + 1);
        }

        int totalOf(int bag) {
            return bag >= 0 && bag < number && bag < totals.length ? totals[bag] : 0;
        }

        int bagWith(int place) {
            int bag = 0;
            while (bag < number - 1 && beginOf(bag + 1) <= place) {
                bag++;
            }
            return bag;
        }

        /** The bag at a place of the order by weights together, or -1. */
        int byTotal(int place) {
            for (int bag = 0; bag < number; bag++) {
                if (numberAheadOf(bag) == place) {
                    return bag;
                }
            }
            return -1;
        }

        private int numberAheadOf(int bag) {
            int sum = 0;
            for (int other = 0; other < number; other++) {
                if (isAhead(other, bag)) {
                    sum++;
                }
            }
            return sum;
        }

        private boolean isAhead(int one, int other) {
            if (totalOf(one) != totalOf(other)) {
                return totalOf(one) > totalOf(other);
            }
            int lettersOfOne = endOf(one) - beginOf(one);
            int lettersOfOther = endOf(other) - beginOf(other);
            return lettersOfOne != lettersOfOther ? lettersOfOne < lettersOfOther : one < other;
        }
    }

    /** How often each weight is in a part. */
    private static final class Tally {
        private final int[] numbers = new int[WEIGHTS];

        void fill(Letters letters, int from, int to) {
            for (int weight = 0; weight < numbers.length; weight++) {
                numbers[weight] = 0;
            }
            for (int place = from; place < to; place++) {
                int weight = letters.at(place);
                if (weight >= 0 && weight < numbers.length) {
                    numbers[weight]++;
                }
            }
        }

        int unlike() {
            int sum = 0;
            for (int weight = 0; weight < numbers.length; weight++) {
                if (numbers[weight] > 0) {
                    sum++;
                }
            }
            return sum;
        }

        /** The weight at a place of the order by how many have it, or -1. */
        int byNumber(int place) {
            for (int weight = 0; weight < numbers.length; weight++) {
                if (numbers[weight] > 0 && numberAheadOf(weight) == place) {
                    return weight;
                }
            }
            return -1;
        }

        private int numberAheadOf(int weight) {
            int mine = weight >= 0 && weight < numbers.length ? numbers[weight] : 0;
            int sum = 0;
            for (int other = 0; other < numbers.length; other++) {
                if (numbers[other] > mine || numbers[other] == mine && other < weight) {
                    sum++;
                }
            }
            return sum;
        }
    }

    /** The weights of a part put in order. */
    private static final class Sizes {
        private final int[] sorted = new int[MOST_LETTERS];
        private int size;

        void fill(Letters letters, int from, int to) {
            size = 0;
            for (int place = from; place < to && size < sorted.length; place++) {
                lay(letters.at(place));
            }
        }

        private void lay(int weight) {
            int place = size;
            while (place > 0 && place < sorted.length && sorted[place - 1] > weight) {
                sorted[place] = sorted[place - 1];
                place--;
            }
            if (place >= 0 && place < sorted.length) {
                sorted[place] = weight;
                size++;
            }
        }

        int at(int place) {
            return place >= 0 && place < size && place < sorted.length ? sorted[place] : 0;
        }
    }

    /** The text, and the orders that were read from it. */
    private static final class Text {
        private final int[] codes = new int[MOST_CHARACTERS];
        private int size;
        private final int[] kinds = new int[MOST_ORDERS];
        private final int[] firsts = new int[MOST_ORDERS];
        private final int[] seconds = new int[MOST_ORDERS];
        private int orders;
        private int cursor;
        private int latestNumber;

        int size() {
            return size;
        }

        boolean isFull() {
            return size >= codes.length;
        }

        void add(int code) {
            if (size >= 0 && size < codes.length) {
                codes[size] = code;
                size++;
            }
        }

        /** The orders that were read are kept: they are carried out when the text is empty again. */
        void empty() {
            size = 0;
        }

        int orders() {
            return orders;
        }

        int kindOf(int order) {
            return order >= 0 && order < orders && order < kinds.length ? kinds[order] : 0;
        }

        int firstOf(int order) {
            return order >= 0 && order < orders && order < firsts.length ? firsts[order] : 0;
        }

        int secondOf(int order) {
            return order >= 0 && order < orders && order < seconds.length ? seconds[order] : 0;
        }

        /** Reads the text; answers its fault position, or -1. */
        int read() {
            orders = 0;
            cursor = 0;
            // an order takes a character at least, so there are no more rounds than characters
            for (int round = 0; round <= MOST_CHARACTERS; round++) {
                if (!readOrder()) {
                    return cursor;
                }
                if (cursor == size) {
                    return -1;
                }
                if (!readSign(';')) {
                    return cursor;
                }
            }
            return cursor;
        }

        private boolean readOrder() {
            int kind = codeAt(cursor);
            if (!readWord(wordOf(kind)) || !readNumber()) {
                return false;
            }
            int first = latestNumber;
            if (kind == 'i' && !(readSign(' ') && readNumber())) {
                return false;
            }
            addOrder(kind, first, latestNumber);
            return true;
        }

        private static String wordOf(int kind) {
            switch (kind) {
                case 'p':
                    return "put ";
                case 'i':
                    return "in ";
                case 'o':
                    return "out ";
                case 's':
                    return "swap ";
                case 'm':
                    return "mark ";
                case 'c':
                    return "clear ";
                default:
                    return "";
            }
        }

        private boolean readWord(String word) {
            for (int index = 0; index < word.length(); index++) {
                if (!readSign(word.charAt(index))) {
                    return false;
                }
            }
            return !word.isEmpty();
        }

        private boolean readNumber() {
            int digit = digitAt(cursor);
            if (digit < 0) {
                return false;
            }
            latestNumber = digit;
            cursor++;
            digit = digitAt(cursor);
            if (digit >= 0) {
                latestNumber = latestNumber * 10 + digit;
                cursor++;
            }
            return true;
        }

        private boolean readSign(int code) {
            if (codeAt(cursor) != code) {
                return false;
            }
            cursor++;
            return true;
        }

        private int digitAt(int index) {
            int code = codeAt(index);
            return code >= '0' && code <= '9' ? code - '0' : -1;
        }

        private int codeAt(int index) {
            return index >= 0 && index < size && index < codes.length ? codes[index] : -1;
        }

        private void addOrder(int kind, int first, int second) {
            if (orders >= 0 && orders < kinds.length && orders < firsts.length && orders < seconds.length) {
                kinds[orders] = kind;
                firsts[orders] = first;
                seconds[orders] = second;
                orders++;
            }
        }
    }

    /** The line that was written last. */
    private static final class Line {
        private final int[] codes = new int[MOST_IN_LINE];
        private int size;

        int size() {
            return size;
        }

        void empty() {
            size = 0;
        }

        void write(int code) {
            if (size >= 0 && size < codes.length) {
                codes[size] = code;
                size++;
            }
        }

        int codeAt(int index) {
            return index >= 0 && index < size && index < codes.length ? codes[index] : -1;
        }
    }
}
