/**
 * A cache for very small objects on flash: a log of whole pages in a ring of segments,
 * and behind it one page for each set of keys. The numbered promises of DOC.md say what
 * each call answers.
 */
public final class EmberCache {
    public static final int BAD = -1, SHUT = -2;

    private static final int MOST_WORDS = 12;
    private static final int PLACES_BESIDE_WORDS = 3;
    private static final int PAGE_PLACES = 32;
    private static final int PAGE_ITEMS = PAGE_PLACES / (PLACES_BESIDE_WORDS + 1);

    private static final int SETS = 64;
    private static final int SEGMENTS = 8;
    private static final int SEGMENT_PAGES = 4;
    private static final int RING_PAGES = SEGMENTS * SEGMENT_PAGES;
    private static final int LOG_ITEMS = (RING_PAGES + 1) * PAGE_ITEMS;

    // An append writes the open page a second time only if something was put anew, which
    // costs a mark, and there are fewer marks than this.
    private static final int MOST_WRITES = 1000;

    private static final long FACTOR = 0xD6E8FEB86659FD93L;
    private static final long FACTOR_INVERSE = 0xCFEE444D8B59A89BL;

    // What count() numbers: first what is counted on and on ..
    private static final int SEGMENTS_FILLED = 0;
    private static final int LOG_PAGES_WRITTEN = 1;
    private static final int WRITTEN_FOR_MOVING = 2;
    private static final int WRITTEN_FOR_TAKING_OUT = 3;
    private static final int WRITTEN_FOR_REMOVE = 4;
    private static final int ITEMS_MOVED = 5;
    private static final int DROPPED_WITHOUT_MARK = 6;
    private static final int DROPPED_WITH_MARK = 7;
    private static final int DROPPED_OF_MOVED = 8;
    private static final int DROPPED_ALONE = 9;
    private static final int ITEMS_PUT_ANEW = 10;
    private static final int SET_PAGES_READ = 11;
    private static final int TALLIES = 12;

    // .. then what is so now.
    private static final int NOW_IN_LOG = 12;
    private static final int NOW_IN_SET_PAGES = 13;
    private static final int NOW_OPEN_PLACES = 14;
    private static final int NOW_HEAD = 15;
    private static final int NOW_HEAD_PAGES = 16;
    private static final int NOW_CLOSED = 17;

    private final int[] tally;
    private final SetPages sets;
    private final Log log;
    private boolean closed;

    // The value that got() tells of outlives its object, so it is kept apart.
    private int gotWords;
    private int gotFirst;
    private int gotStep;

    public EmberCache() {
        tally = new int[TALLIES];
        sets = new SetPages(tally);
        log = new Log(sets, tally);
    }

    public int put(long key, int n, int first, int step) {
        if (closed) {
            return SHUT;
        }
        if (n < 1 || n > MOST_WORDS) {
            return BAD;
        }
        log.kill(log.find(key));
        log.append(new Item(key, n, first, step));
        return 1;
    }

    public int get(long key) {
        if (closed) {
            return SHUT;
        }
        Item found = log.find(key);
        if (found == null) {
            found = sets.read(key);
        }
        if (found == null) {
            return 0;
        }
        found.marked = true;
        gotWords = found.words;
        gotFirst = found.first;
        gotStep = found.step;
        return gotWords;
    }

    public int got(int i) {
        return i >= 0 && i < gotWords ? gotFirst + i * gotStep : 0;
    }

    public int remove(long key) {
        if (closed) {
            return SHUT;
        }
        boolean wasInLog = log.kill(log.find(key));
        boolean stoodInPage = sets.takeOut(key, WRITTEN_FOR_REMOVE);
        return wasInLog || stoodInPage ? 1 : 0;
    }

    public long mix(long key) {
        return mixOf(key);
    }

    public long unmix(long m) {
        // x ^ (x >>> 32) undoes itself.
        long x = (m ^ (m >>> 32)) * FACTOR_INVERSE;
        x = (x ^ (x >>> 32)) * FACTOR_INVERSE;
        return x ^ (x >>> 32);
    }

    public int setOf(long key) {
        return setOfMix(mixOf(key));
    }

    public int where(long key) {
        if (closed) {
            return SHUT;
        }
        if (log.find(key) != null) {
            return 1;
        }
        return sets.find(key) != null ? 2 : 0;
    }

    public int mark(long key) {
        if (closed) {
            return SHUT;
        }
        Item found = log.find(key);
        if (found == null) {
            found = sets.find(key);
        }
        return found != null && found.marked ? 1 : 0;
    }

    public int stands(int set) {
        if (closed) {
            return SHUT;
        }
        return isSet(set) ? sets.pages[set].size : BAD;
    }

    public long key(int set, int i) {
        if (closed || !isSet(set)) {
            return 0;
        }
        Item item = sets.pages[set].at(i);
        return item != null ? item.key : 0;
    }

    public long filter(int set) {
        return closed || !isSet(set) ? 0 : sets.filters[set];
    }

    public int alive(int segment) {
        if (closed) {
            return SHUT;
        }
        if (segment < 0 || segment > SEGMENTS) {
            return BAD;
        }
        return segment == SEGMENTS ? log.openPage.countInLog() : log.countInSegment(segment);
    }

    public int count(int what) {
        if (what >= 0 && what < TALLIES) {
            return tally[what];
        }
        switch (what) {
            case NOW_IN_LOG:
                return log.living;
            case NOW_IN_SET_PAGES:
                return sets.standing;
            case NOW_OPEN_PLACES:
                return log.openPage.places();
            case NOW_HEAD:
                return log.head;
            case NOW_HEAD_PAGES:
                return log.written[log.head];
            case NOW_CLOSED:
                return closed ? 1 : 0;
            default:
                return BAD;
        }
    }

    public int close() {
        if (closed) {
            return SHUT;
        }
        closed = true;
        return 1;
    }

    public int crash() {
        int lost = log.living;
        log.wipe();
        sets.wipe();
        closed = true;
        return lost;
    }

    public int open() {
        if (!closed) {
            return BAD;
        }
        closed = false;
        return log.living;
    }

    public int check() {
        if (closed) {
            return SHUT;
        }
        int broken = log.keysDiffer() ? 0 : 1;
        broken += log.pagesFit() && sets.pagesFit() ? 0 : 1;
        broken += sets.keysBelong() ? 0 : 1;
        broken += sets.filtersAreRight() ? 0 : 1;
        broken += log.countIsRight() && sets.countIsRight() ? 0 : 1;
        return broken;
    }

    private static boolean isSet(int set) {
        return set >= 0 && set < SETS;
    }

    private static long mixOf(long key) {
        long x = (key ^ (key >>> 32)) * FACTOR;
        x = (x ^ (x >>> 32)) * FACTOR;
        return x ^ (x >>> 32);
    }

    private static int setOfMix(long mixed) {
        return (int) (mixed & (SETS - 1));
    }

    private static long filterBits(long mixed) {
        int one = (int) ((mixed >>> 6) & 63);
        int other = (int) ((mixed >>> 12) & 63);
        return (1L << one) | (1L << other);
    }

    /** A key with its value, whose words follow from the first one and the step. */
    private static final class Item {
        private final long key;
        private final int set;
        private final long bits;
        private final int places;
        private final int words;
        private final int first;
        private final int step;
        private boolean marked;
        // A moved item stays behind in its log page as a dead one: only this tells it there.
        private boolean inLog;

        Item(long key, int words, int first, int step) {
            long mixed = mixOf(key);
            this.key = key;
            this.set = setOfMix(mixed);
            this.bits = filterBits(mixed);
            this.places = PLACES_BESIDE_WORDS + words;
            this.words = words;
            this.first = first;
            this.step = step;
        }
    }

    /** Items one behind the other, up to a bound: a page, or a list that is worked on. */
    private static final class Row {
        private final Item[] items;
        // Only add() makes it more, and not beyond the length of items.
        private int size;

        Row(int bound) {
            items = new Item[Math.max(bound, 0)];
        }

        Item at(int i) {
            return i >= 0 && i < size ? items[i] : null;
        }

        void add(Item item) {
            if (size < items.length) {
                items[size] = item;
                size++;
            }
        }

        void addAll(Row other) {
            for (int i = 0; i < other.size; i++) {
                add(other.at(i));
            }
        }

        void addInLog(Row other, int from, int set) {
            for (int i = from; i < other.size; i++) {
                Item item = other.at(i);
                if (item != null && item.inLog && item.set == set) {
                    add(item);
                }
            }
        }

        void clear() {
            size = 0;
        }

        /** Leaves a hole, so that the numbers of the others stay. */
        void blank(int i) {
            if (i >= 0 && i < size) {
                items[i] = null;
            }
        }

        void closeUpOver(int i) {
            if (i < 0 || i >= size) {
                return;
            }
            for (int k = i + 1; k < size; k++) {
                items[k - 1] = items[k];
            }
            size--;
        }

        /** The number of the first item with the key, -1 if there is none. */
        int indexOf(long key) {
            for (int i = 0; i < size; i++) {
                Item item = items[i];
                if (item != null && item.key == key) {
                    return i;
                }
            }
            return -1;
        }

        Item findInLog(long key) {
            for (int i = 0; i < size; i++) {
                Item item = items[i];
                if (item != null && item.key == key && item.inLog) {
                    return item;
                }
            }
            return null;
        }

        int countInLog() {
            int living = 0;
            for (int i = 0; i < size; i++) {
                Item item = items[i];
                if (item != null && item.inLog) {
                    living++;
                }
            }
            return living;
        }

        int places() {
            int sum = 0;
            for (int i = 0; i < size; i++) {
                Item item = items[i];
                if (item != null) {
                    sum += item.places;
                }
            }
            return sum;
        }

        boolean hasRoomFor(Item item) {
            return places() + item.places <= PAGE_PLACES;
        }

        long filterOfKeys() {
            long bits = 0;
            for (int i = 0; i < size; i++) {
                Item item = items[i];
                if (item != null) {
                    bits |= item.bits;
                }
            }
            return bits;
        }

        /** Whether all keys are of one set, and each is there once. */
        boolean belongsTo(int set) {
            for (int i = 0; i < size; i++) {
                Item item = items[i];
                if (item == null || item.set != set || indexOf(item.key) != i) {
                    return false;
                }
            }
            return true;
        }
    }

    /** One page for each set, and its filter. */
    private static final class SetPages {
        private final Row[] pages;
        private final long[] filters;
        private final int[] tally;
        private final Row bench;
        private int standing;

        SetPages(int[] tally) {
            this.tally = tally;
            pages = new Row[SETS];
            for (int set = 0; set < SETS; set++) {
                pages[set] = new Row(PAGE_ITEMS);
            }
            filters = new long[SETS];
            bench = new Row(PAGE_ITEMS + LOG_ITEMS);
        }

        Item find(long key) {
            Row page = pages[setOfMix(mixOf(key))];
            return page.at(page.indexOf(key));
        }

        /** As find(), but the filter is asked first and the reading is counted. */
        Item read(long key) {
            long mixed = mixOf(key);
            int set = setOfMix(mixed);
            long bits = filterBits(mixed);
            if ((filters[set] & bits) != bits) {
                return null;
            }
            tally[SET_PAGES_READ]++;
            return pages[set].at(pages[set].indexOf(key));
        }

        boolean takeOut(long key, int writtenFor) {
            Item item = read(key);
            if (item == null) {
                return false;
            }
            Row page = pages[item.set];
            page.closeUpOver(page.indexOf(key));
            standing--;
            filters[item.set] = page.filterOfKeys();
            tally[writtenFor]++;
            return true;
        }

        /** Moves items of one set, which stand in the order in which they were appended. */
        void moveIn(int set, Row group) {
            Row page = pages[set];
            tally[SET_PAGES_READ]++;
            tally[ITEMS_MOVED] += group.size;
            layOutOthers(page, group);
            int stood = bench.size;
            bench.addAll(group);
            // Each pass begins only if all that the one before it could drop is gone.
            int over = bench.places() - PAGE_PLACES;
            over = dropPass(0, stood, true, over, DROPPED_WITHOUT_MARK);
            over = dropPass(0, stood, false, over, DROPPED_WITH_MARK);
            dropPass(stood, bench.size, false, over, DROPPED_OF_MOVED);
            standing -= page.size;
            refill(page);
            standing += page.size;
            filters[set] = page.filterOfKeys();
            tally[WRITTEN_FOR_MOVING]++;
        }

        private void layOutOthers(Row page, Row group) {
            bench.clear();
            for (int i = 0; i < page.size; i++) {
                Item item = page.at(i);
                if (item != null && group.indexOf(item.key) < 0) {
                    bench.add(item);
                }
            }
        }

        private int dropPass(int from, int to, boolean spareMarked, int over, int countedAs) {
            int left = over;
            for (int i = from; i < to && left > 0; i++) {
                Item item = bench.at(i);
                if (item != null && !(spareMarked && item.marked)) {
                    left -= item.places;
                    bench.blank(i);
                    tally[countedAs]++;
                }
            }
            return left;
        }

        private void refill(Row page) {
            page.clear();
            for (int i = 0; i < bench.size; i++) {
                Item item = bench.at(i);
                if (item != null) {
                    item.marked = false;
                    page.add(item);
                }
            }
        }

        void wipe() {
            for (int set = 0; set < SETS; set++) {
                pages[set].clear();
                filters[set] = 0;
            }
            standing = 0;
        }

        boolean pagesFit() {
            for (int set = 0; set < SETS; set++) {
                if (pages[set].places() > PAGE_PLACES) {
                    return false;
                }
            }
            return true;
        }

        boolean keysBelong() {
            for (int set = 0; set < SETS; set++) {
                if (!pages[set].belongsTo(set)) {
                    return false;
                }
            }
            return true;
        }

        boolean filtersAreRight() {
            for (int set = 0; set < SETS; set++) {
                if (filters[set] != pages[set].filterOfKeys()) {
                    return false;
                }
            }
            return true;
        }

        boolean countIsRight() {
            int sum = 0;
            for (int set = 0; set < SETS; set++) {
                sum += pages[set].size;
            }
            return sum == standing;
        }
    }

    /** The ring of segments and the open page. */
    private static final class Log {
        // The pages of segment s have the numbers from s * SEGMENT_PAGES on.
        private final Row[] ring;
        private final int[] written;
        private Row openPage;
        private final Row takenOut;
        private final Row group;
        private final SetPages sets;
        private final int[] tally;
        private int head;
        private int living;

        Log(SetPages sets, int[] tally) {
            this.sets = sets;
            this.tally = tally;
            ring = new Row[RING_PAGES];
            for (int page = 0; page < RING_PAGES; page++) {
                ring[page] = new Row(PAGE_ITEMS);
            }
            written = new int[SEGMENTS];
            openPage = new Row(PAGE_ITEMS);
            takenOut = new Row(SEGMENT_PAGES * PAGE_ITEMS);
            group = new Row(LOG_ITEMS);
        }

        Item find(long key) {
            Item found = openPage.findInLog(key);
            for (int page = 0; page < RING_PAGES && found == null; page++) {
                found = ring[page].findInLog(key);
            }
            return found;
        }

        /** Whether there was something to kill. */
        boolean kill(Item item) {
            if (item == null || !item.inLog) {
                return false;
            }
            item.inLog = false;
            living--;
            return true;
        }

        void append(Item item) {
            for (int k = 0; k < MOST_WRITES && !openPage.hasRoomFor(item); k++) {
                writeOpenPage();
                if (written[head] >= SEGMENT_PAGES) {
                    tally[SEGMENTS_FILLED]++;
                    head = (head + 1) % SEGMENTS;
                    emptyHead();
                }
            }
            item.inLog = true;
            living++;
            openPage.add(item);
        }

        private void writeOpenPage() {
            if (written[head] < SEGMENT_PAGES) {
                int page = head * SEGMENT_PAGES + written[head];
                Row empty = ring[page];
                ring[page] = openPage;
                openPage = empty;
                written[head]++;
                tally[LOG_PAGES_WRITTEN]++;
            }
            openPage.clear();
        }

        private void emptyHead() {
            takenOut.clear();
            for (int k = 0; k < SEGMENT_PAGES; k++) {
                Row page = ring[head * SEGMENT_PAGES + k];
                takenOut.addAll(page);
                page.clear();
            }
            written[head] = 0;
            for (int i = 0; i < takenOut.size; i++) {
                settle(i);
            }
            takenOut.clear();
        }

        private void settle(int i) {
            Item item = takenOut.at(i);
            if (item == null || !item.inLog) {
                return;
            }
            gather(item.set, i);
            if (group.size >= 2) {
                killGroup();
                sets.moveIn(item.set, group);
            } else if (item.marked) {
                putAnew(item);
            } else {
                kill(item);
                tally[DROPPED_ALONE]++;
                sets.takeOut(item.key, WRITTEN_FOR_TAKING_OUT);
            }
        }

        /**
         * Those of a set that are alive, in the order in which they were appended: what was
         * taken out is the oldest, then comes the segment behind the HEAD. What was taken out
         * before number i is settled already, be it that it now lies elsewhere.
         */
        private void gather(int set, int i) {
            group.clear();
            group.addInLog(takenOut, i, set);
            int oldest = (head + 1) * SEGMENT_PAGES;
            for (int k = 0; k < RING_PAGES; k++) {
                group.addInLog(ring[(oldest + k) % RING_PAGES], 0, set);
            }
            group.addInLog(openPage, 0, set);
        }

        private void killGroup() {
            for (int i = 0; i < group.size; i++) {
                kill(group.at(i));
            }
        }

        /**
         * Never fills the HEAD: what is put anew is a part of what the HEAD's own pages had,
         * in the same order, so it takes no more pages than those, the open one among them.
         */
        private void putAnew(Item item) {
            item.marked = false;
            tally[ITEMS_PUT_ANEW]++;
            if (!openPage.hasRoomFor(item)) {
                writeOpenPage();
            }
            openPage.add(item);
        }

        void wipe() {
            for (int page = 0; page < RING_PAGES; page++) {
                ring[page].clear();
            }
            for (int segment = 0; segment < SEGMENTS; segment++) {
                written[segment] = 0;
            }
            openPage.clear();
            head = 0;
            living = 0;
        }

        int countInSegment(int segment) {
            if (segment < 0 || segment >= SEGMENTS) {
                return 0;
            }
            int sum = 0;
            for (int k = 0; k < SEGMENT_PAGES; k++) {
                sum += ring[segment * SEGMENT_PAGES + k].countInLog();
            }
            return sum;
        }

        boolean pagesFit() {
            for (int page = 0; page < RING_PAGES; page++) {
                if (ring[page].places() > PAGE_PLACES) {
                    return false;
                }
            }
            return openPage.places() <= PAGE_PLACES;
        }

        boolean countIsRight() {
            int sum = openPage.countInLog();
            for (int page = 0; page < RING_PAGES; page++) {
                sum += ring[page].countInLog();
            }
            return sum == living;
        }

        boolean keysDiffer() {
            for (int set = 0; set < SETS; set++) {
                gather(set, 0);
                if (!group.belongsTo(set)) {
                    return false;
                }
            }
            return true;
        }
    }
}
