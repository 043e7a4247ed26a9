import java.lang.reflect.Field;

/**
 * Promise 19 from the inside: no call can make check() find something, so each thing that
 * it looks at is broken here by hand, behind the class's back.
 */
public final class EmberCacheCheck {
    private static int wrong = 0;

    private static void due(String what, int got, int want) {
        if (got != want) {
            wrong++;
            System.out.println("check() with " + what + " answered " + got + ", due is " + want);
        }
    }

    private static Object part(Object of, String name) throws Exception {
        return field(of, name).get(of);
    }

    private static Field field(Object of, String name) throws Exception {
        Field f = of.getClass().getDeclaredField(name);
        f.setAccessible(true);
        return f;
    }

    /** Two objects of 12 words stand in the page of set 5, one more is alive in the open page. */
    private static EmberCache filled() {
        EmberCache x = new EmberCache();
        x.put(x.unmix(64 + 5), 12, 0, 0);
        x.put(x.unmix(128 + 5), 12, 0, 0);
        for (int i = 0; i < 63; i++) x.put(0, 12, 0, 0);
        due("nothing broken", x.check(), 0);
        return x;
    }

    private static Object pageOfSet(EmberCache x, int set) throws Exception {
        return ((Object[]) part(part(x, "sets"), "pages"))[set];
    }

    private static Object itemAt(Object row, int i) throws Exception {
        return ((Object[]) part(row, "items"))[i];
    }

    private static void addItem(Object row, Object item) throws Exception {
        Field size = field(row, "size");
        ((Object[]) part(row, "items"))[size.getInt(row)] = item;
        size.setInt(row, size.getInt(row) + 1);
    }

    private static void addTo(Object of, String name, int more) throws Exception {
        Field f = field(of, name);
        f.setInt(of, f.getInt(of) + more);
    }

    private static void breakCounts() throws Exception {
        EmberCache x = filled();
        addTo(part(x, "log"), "living", 1);
        due("count(12) wrong", x.check(), 1);
        addTo(part(x, "sets"), "standing", -1);
        due("count(12) and count(13) wrong", x.check(), 1);
        addTo(part(x, "log"), "living", -1);
        due("count(13) wrong", x.check(), 1);
    }

    private static void breakFilter() throws Exception {
        for (int set : new int[] {0, 5, 63}) {
            EmberCache x = filled();
            ((long[]) part(part(x, "sets"), "filters"))[set] ^= 1L << 40;
            due("the filter of set " + set + " wrong", x.check(), 1);
        }
    }

    private static void breakLog() throws Exception {
        EmberCache x = filled();
        Object log = part(x, "log");
        Object openPage = part(log, "openPage");
        Object last = ((Object[]) part(log, "ring"))[31];
        addItem(last, itemAt(openPage, 0));
        addTo(log, "living", 1);
        due("a key alive twice, in a page of three", x.check(), 2);
        x = filled();
        openPage = part(part(x, "log"), "openPage");
        Object dead = itemAt(((Object[]) part(part(x, "log"), "ring"))[31], 0);
        addItem(openPage, dead);
        due("a dead one in the open page", x.check(), 0);
        addItem(openPage, dead);
        due("an open page of 45 places", x.check(), 1);
    }

    private static void breakSetPages() throws Exception {
        EmberCache x = filled();
        addItem(pageOfSet(x, 5), itemAt(pageOfSet(x, 5), 0));
        addTo(part(x, "sets"), "standing", 1);
        due("a key that stands twice, in a page of 45 places", x.check(), 2);
        x = filled();
        addItem(pageOfSet(x, 6), itemAt(pageOfSet(x, 5), 0));
        addTo(part(x, "sets"), "standing", 1);
        ((long[]) part(part(x, "sets"), "filters"))[6] = x.filter(5) & 0b11;
        due("a key in the page of another set", x.check(), 1);
        ((long[]) part(part(x, "sets"), "filters"))[6] = 0;
        due("that, and the filter as if it were empty", x.check(), 2);
    }

    /** An item that some cache has just put, as a piece to break another with. */
    private static Object loose(long key, int words) throws Exception {
        EmberCache x = new EmberCache();
        x.put(key, words, 0, 0);
        Object item = itemAt(part(part(x, "log"), "openPage"), 0);
        field(item, "inLog").setBoolean(item, false);
        return item;
    }

    private static void places(String what, EmberCache x, Object row) throws Exception {
        addItem(row, loose(0, 12));
        addItem(row, loose(0, 10));
        addItem(row, loose(0, 1));
        due(what + " of 32 places", x.check(), 0);
        ((Object[]) part(row, "items"))[1] = loose(0, 11);
        due(what + " of 33 places", x.check(), 1);
    }

    private static void breakEachPageOfTheLog() throws Exception {
        EmberCache x = new EmberCache();
        places("an open page", x, part(part(x, "log"), "openPage"));
        for (int page = 0; page < 32; page++) {
            x = new EmberCache();
            places("page " + page + " of the log", x, ((Object[]) part(part(x, "log"), "ring"))[page]);
        }
    }

    private static void breakEachSetPage() throws Exception {
        for (int set = 0; set < 64; set++) {
            EmberCache x = new EmberCache();
            Object page = pageOfSet(x, set);
            long[] filters = (long[]) part(part(x, "sets"), "filters");
            addItem(page, loose(x.unmix(set), 12));
            addItem(page, loose(x.unmix(4096 | set), 10));
            addItem(page, loose(x.unmix(8192 | set), 1));
            addTo(part(x, "sets"), "standing", 3);
            filters[set] = 0b111;
            due("set page " + set + " of 32 places", x.check(), 0);
            addTo(part(x, "sets"), "standing", -1);
            due("one of set page " + set + " not counted", x.check(), 1);
            addTo(part(x, "sets"), "standing", 1);
            ((Object[]) part(page, "items"))[1] = loose(x.unmix(4096 | set), 11);
            due("set page " + set + " of 33 places", x.check(), 1);
            ((Object[]) part(page, "items"))[1] = loose(x.unmix(8192 | set), 1);
            filters[set] = 0b101;
            due("a key twice in set page " + set, x.check(), 1);
            ((Object[]) part(page, "items"))[1] = loose(x.unmix(8192 | (set ^ 1)), 1);
            due("a key of another set in set page " + set, x.check(), 1);
            ((Object[]) part(page, "items"))[1] = loose(x.unmix(4096 | set), 1);
            due("the filter of set page " + set + " wrong", x.check(), 1);
        }
    }

    private static void breakEachSetOfTheLog() throws Exception {
        for (int set = 0; set < 64; set++) {
            EmberCache x = new EmberCache();
            x.put(x.unmix(set), 1, 0, 0);
            Object twin = loose(x.unmix(set), 1);
            addItem(((Object[]) part(part(x, "log"), "ring"))[set % 32], twin);
            due("a dead one with the same key, of set " + set, x.check(), 0);
            field(twin, "inLog").setBoolean(twin, true);
            addTo(part(x, "log"), "living", 1);
            due("a key of set " + set + " alive twice", x.check(), 1);
        }
    }

    private static void breakAll() throws Exception {
        EmberCache x = filled();
        Object openPage = part(part(x, "log"), "openPage");
        addItem(openPage, itemAt(openPage, 0));
        addItem(openPage, itemAt(openPage, 0));
        addItem(pageOfSet(x, 6), itemAt(pageOfSet(x, 5), 0));
        due("everything broken", x.check(), 5);
    }

    public static void main(String[] args) throws Exception {
        breakCounts();
        breakFilter();
        breakLog();
        breakSetPages();
        breakEachPageOfTheLog();
        breakEachSetPage();
        breakEachSetOfTheLog();
        breakAll();
        System.out.println(wrong == 0 ? "all answers are as due" : wrong + " answers are not as due");
        if (wrong != 0) System.exit(1);
    }
}
