/**
 * The promises 1 to 19, one by one, with answers worked out by hand from the document.
 *
 * Values of 12 words take 15 places, so two lie in a page and eight in a segment: if all
 * are like that, put number 64 r + 1 (from 1 on) empties segment 0, and 8 s more segment s.
 */
public final class EmberCachePromises {
    private static final int BAD = -1, SHUT = -2;
    // Put again and again, this one is alive only once: it turns the ring and leaves nothing.
    private static final long FILLER = keyOf(63, 63, 63, 9);

    private static int wrong = 0;

    private static void due(int promise, String what, long got, long want) {
        if (got != want) {
            wrong++;
            System.out.println("promise " + promise + ": " + what + " answered " + got + ", due is " + want);
        }
    }

    /** A key of a set, with two filter bits; keys of a different number differ. */
    private static long keyOf(int set, int one, int other, int number) {
        return new EmberCache().unmix(((long) number << 18) | ((long) other << 12) | ((long) one << 6) | set);
    }

    private static void spin(EmberCache x, int puts) {
        for (int i = 0; i < puts; i++) {
            due(2, "put of the filler", x.put(FILLER, 12, 0, 0), 1);
        }
    }

    private static void putAll(EmberCache x, int n, long... keys) {
        for (long key : keys) {
            due(2, "put", x.put(key, n, (int) key, 1), 1);
        }
    }

    private static void counts(int promise, String when, EmberCache x, int... want) {
        for (int i = 0; i < want.length; i++) {
            due(promise, "count(" + i + ") " + when, x.count(i), want[i]);
        }
    }

    private static void page(int promise, String when, EmberCache x, int set, long... keys) {
        due(promise, "stands " + when, x.stands(set), keys.length);
        for (int i = 0; i < keys.length; i++) {
            due(promise, "key " + i + " " + when, x.key(set, i), keys[i]);
        }
        due(promise, "key behind the last " + when, x.key(set, keys.length), 0);
    }

    private static void newObject() {
        EmberCache x = new EmberCache();
        counts(1, "of a new object", x, new int[18]);
        for (int s = 0; s < 64; s++) {
            due(1, "stands", x.stands(s), 0);
            due(1, "filter", x.filter(s), 0);
        }
        for (int s = 0; s <= 8; s++) due(1, "alive", x.alive(s), 0);
        due(1, "got", x.got(0), 0);
        due(1, "open of an open one", x.open(), BAD);
        due(1, "check", x.check(), 0);
        x.put(1, 1, 1, 1);
        due(1, "another object's count", new EmberCache().count(12), 0);
    }

    private static void putEdges() {
        EmberCache x = new EmberCache();
        for (int n : new int[] {0, -1, 13, Integer.MIN_VALUE, Integer.MAX_VALUE}) {
            due(2, "put of " + n, x.put(7, n, 1, 1), BAD);
        }
        due(2, "count(14) behind bad puts", x.count(14), 0);
        due(2, "put of 12", x.put(7, 12, 1, 1), 1);
        due(2, "put of 1", x.put(Long.MIN_VALUE, 1, 1, 1), 1);
        due(2, "put of -1", x.put(-1, 10, 1, 1), 1);
        due(2, "count(14) of a full page", x.count(14), 32);
        due(2, "count(1) of a full page", x.count(1), 0);
        due(2, "bad put keeps", x.put(7, 13, 5, 5), BAD);
        due(2, "get behind a bad put", x.get(7), 12);
        due(2, "put", x.put(7, 2, 9, 1), 1);
        due(2, "count(1)", x.count(1), 1);
        due(2, "count(16)", x.count(16), 1);
        due(2, "count(14)", x.count(14), 5);
        due(2, "mark of what is put again", x.mark(7), 0);
        due(2, "alive(0)", x.alive(0), 2);
        due(2, "alive(8)", x.alive(8), 1);
        due(2, "count(12)", x.count(12), 3);
        x.close();
        due(2, "put, SHUT first", x.put(7, 13, 5, 5), SHUT);
    }

    private static void getAndGot() {
        EmberCache x = new EmberCache();
        due(3, "get of nothing", x.get(0), 0);
        due(4, "got of nothing", x.got(0), 0);
        x.put(3, 12, Integer.MAX_VALUE, 1);
        x.put(4, 3, -5, Integer.MIN_VALUE);
        due(3, "get", x.get(4), 3);
        due(4, "got 1", x.got(1), -5 + Integer.MIN_VALUE);
        due(4, "got 2", x.got(2), -5);
        due(4, "got 3", x.got(3), 0);
        due(3, "get", x.get(3), 12);
        due(4, "got 0", x.got(0), Integer.MAX_VALUE);
        due(4, "got 1", x.got(1), Integer.MIN_VALUE);
        due(4, "got 11", x.got(11), Integer.MIN_VALUE + 10);
        for (int i : new int[] {-1, 12, Integer.MIN_VALUE, Integer.MAX_VALUE}) due(4, "got " + i, x.got(i), 0);
        due(3, "get of none", x.get(99), 0);
        due(4, "got behind a get that found none", x.got(0), Integer.MAX_VALUE);
        x.put(3, 1, 8, 8);
        due(4, "got behind a put", x.got(1), Integer.MIN_VALUE);
        x.remove(3);
        due(4, "got behind a remove", x.got(1), Integer.MIN_VALUE);
        x.close();
        due(3, "get, SHUT", x.get(4), SHUT);
        due(4, "got, CLOSED", x.got(1), Integer.MIN_VALUE);
        x.crash();
        due(4, "got behind a crash", x.got(0), Integer.MAX_VALUE);
        x.open();
        due(3, "get behind a crash", x.get(4), 0);
        due(4, "got behind a crash and open", x.got(0), Integer.MAX_VALUE);
    }

    private static void mixing() {
        EmberCache tool = new EmberCache();
        due(6, "mix(0)", tool.mix(0), 0);
        due(6, "mix(1)", tool.mix(1), 4717996019076358352L);
        due(7, "unmix(1)", tool.unmix(1), -5444317825690816422L);
        due(8, "setOf(1)", tool.setOf(1), 16);
        long x = 88172645463325252L;
        for (int i = 0; i < 70; i++) {
            x = x * 6364136223846793005L + 1442695040888963407L;
            due(7, "unmix of mix", tool.unmix(tool.mix(x)), x);
            due(6, "mix of unmix", tool.mix(tool.unmix(x)), x);
            due(8, "setOf", tool.setOf(x), tool.mix(x) & 63);
        }
        for (long edge : new long[] {-1, Long.MIN_VALUE, Long.MAX_VALUE, 1L << 32}) {
            due(7, "unmix of mix", tool.unmix(tool.mix(edge)), edge);
            due(8, "setOf", tool.setOf(edge), tool.mix(edge) & 63);
        }
    }

    private static void movedTogether() {
        long a = keyOf(5, 1, 2, 1);
        long b = keyOf(5, 1, 3, 2);
        EmberCache x = new EmberCache();
        putAll(x, 12, a, b);
        spin(x, 62);
        counts(15, "before the ring is round", x, 7, 31, 0, 0, 0, 0, 0, 0, 0, 0, 0, 0, 3, 0, 30, 7, 3, 0);
        due(14, "alive(0)", x.alive(0), 2);
        spin(x, 1);
        counts(15, "when two were moved", x, 8, 32, 1, 0, 0, 2, 0, 0, 0, 0, 0, 1, 1, 2, 15, 0, 0, 0);
        page(12, "when two were moved", x, 5, a, b);
        due(13, "filter", x.filter(5), 0b1110);
        due(9, "where", x.where(a), 2);
        due(9, "where of the filler", x.where(FILLER), 1);
        due(10, "mark", x.mark(a), 0);
        due(15, "count(11) behind where and mark", x.count(11), 1);
        due(3, "get from a page", x.get(b), 12);
        due(4, "got from a page", x.got(2), (int) b + 2);
        due(10, "mark", x.mark(b), 1);
        due(15, "count(11)", x.count(11), 2);
        due(3, "get that the filter lets through", x.get(keyOf(5, 2, 3, 3)), 0);
        due(15, "count(11)", x.count(11), 3);
        due(3, "get that the filter stops", x.get(keyOf(5, 2, 4, 3)), 0);
        due(15, "count(11)", x.count(11), 3);
        due(15, "count(2): a mark writes no page", x.count(2), 1);
        due(19, "check", x.check(), 0);
    }

    private static void movedFromEverywhere() {
        long a = keyOf(5, 1, 1, 1);
        long b = keyOf(5, 2, 2, 2);
        long c = keyOf(5, 3, 3, 3);
        long d = keyOf(5, 4, 4, 4);
        EmberCache x = new EmberCache();
        putAll(x, 12, a);
        spin(x, 20);
        putAll(x, 4, b);
        spin(x, 41);
        x.put(a, 4, 77, 1);
        spin(x, 7);
        due(9, "where of a", x.where(a), 1);
        due(12, "nothing is moved for a dead one", x.stands(5), 0);
        putAll(x, 2, c, d);
        spin(x, 17);
        due(15, "count(5)", x.count(5), 4);
        page(12, "all of the set, in their order", x, 5, b, a, c, d);
        due(3, "get", x.get(a), 4);
        due(4, "got", x.got(0), 77);
        due(15, "count(2)", x.count(2), 1);
    }

    private static void droppedInThePage() {
        long[] k = new long[9];
        for (int i = 0; i < 9; i++) k[i] = keyOf(5, i, i, i + 1);
        EmberCache x = new EmberCache();
        putAll(x, 12, k[0], k[1]);
        spin(x, 63);
        x.get(k[0]);
        putAll(x, 12, k[2], k[3]);
        spin(x, 62);
        counts(15, "when those that stood were dropped", x, 16, 64, 2, 0, 0, 4, 1, 1, 0, 0, 0, 3, 1, 2);
        page(12, "when those that stood were dropped", x, 5, k[2], k[3]);
        putAll(x, 12, k[4], k[5], k[6]);
        x.get(k[2]);
        x.get(k[3]);
        spin(x, 61);
        counts(15, "when one of the moved was dropped", x, 24, 96, 3, 0, 0, 7, 1, 3, 1, 0, 0, 6, 1, 2);
        page(12, "when one of the moved was dropped", x, 5, k[5], k[6]);
        due(13, "filter", x.filter(5), 0b1100000);
        due(19, "check", x.check(), 0);
    }

    private static void droppedUnmarkedFirst() {
        long[] k = new long[9];
        for (int i = 0; i < 9; i++) k[i] = keyOf(7, 0, 0, i + 1);
        EmberCache x = new EmberCache();
        putAll(x, 5, k[0], k[1], k[2]);
        putAll(x, 3, k[3]);
        spin(x, 1);
        spin(x, 61);
        due(11, "stands before the ring is round", x.stands(7), 0);
        spin(x, 1);
        page(12, "places 8, 8, 8, 6", x, 7, k[0], k[1], k[2], k[3]);
        x.get(k[0]);
        x.get(k[2]);
        x.put(k[3], 6, 5, 5);
        x.put(k[4], 4, 5, 5);
        spin(x, 64);
        page(12, "8, 8, 9, 7: the old value went", x, 7, k[0], k[2], k[3], k[4]);
        due(15, "count(6)", x.count(6), 1);
        due(15, "count(7)", x.count(7), 0);
        due(10, "marks are cleared", x.mark(k[0]) + x.mark(k[2]), 0);
        due(3, "get", x.get(k[3]), 6);
    }

    private static void droppedAlone() {
        long a = keyOf(5, 1, 2, 1);
        long b = keyOf(5, 1, 3, 2);
        long like = keyOf(5, 2, 3, 3);
        EmberCache x = new EmberCache();
        putAll(x, 12, a, b);
        spin(x, 63);
        x.put(a, 12, 500, 1);
        due(9, "where of a newer one", x.where(a), 1);
        due(12, "the older one stays", x.stands(5), 2);
        spin(x, 63);
        counts(15, "when a was dropped alone", x, 16, 64, 1, 1, 0, 2, 0, 0, 0, 1, 0, 2, 1, 1);
        page(12, "when a was dropped alone", x, 5, b);
        due(9, "where: an old value never comes back", x.where(a), 0);
        due(3, "get: an old value never comes back", x.get(a), 0);
        due(13, "filter", x.filter(5), 0b1010);
        due(15, "count(11): the filter is that of b", x.count(11), 2);
        x.put(keyOf(5, 3, 1, 8), 12, 0, 0);
        spin(x, 63);
        due(15, "count(9)", x.count(9), 2);
        due(15, "count(3): its key did not stand there", x.count(3), 1);
        due(15, "count(11): but the page was looked through", x.count(11), 3);
        x.put(like, 12, 0, 0);
        spin(x, 63);
        due(15, "count(9)", x.count(9), 3);
        due(15, "count(11): the filter kept it from being read", x.count(11), 3);
    }

    private static void putAnew() {
        long a = keyOf(5, 1, 2, 1);
        long b = keyOf(5, 1, 3, 2);
        EmberCache x = new EmberCache();
        putAll(x, 12, a, b);
        spin(x, 63);
        x.put(a, 12, 500, 1);
        x.get(a);
        spin(x, 63);
        counts(15, "when a was put anew", x, 16, 64, 1, 0, 0, 2, 0, 0, 0, 0, 1, 1, 2, 2, 30, 0, 0);
        due(10, "mark of what was put anew", x.mark(a), 0);
        due(14, "alive(8)", x.alive(8), 2);
        page(12, "the older one stays", x, 5, a, b);
        x.get(a);
        due(4, "got of what was put anew", x.got(0), 500);
        spin(x, 64);
        due(15, "count(10)", x.count(10), 2);
        spin(x, 65);
        due(15, "count(9)", x.count(9), 1);
        due(15, "count(3)", x.count(3), 1);
        due(9, "where", x.where(a), 0);
        page(12, "the older one is taken out", x, 5, b);
    }

    private static void allPutAnew() {
        EmberCache x = new EmberCache();
        for (int i = 0; i < 64; i++) {
            x.put(keyOf(i, 0, 0, 1), 12, i, i);
            x.get(keyOf(i, 0, 0, 1));
        }
        counts(15, "with all marked", x, 7, 31, 0, 0, 0, 0, 0, 0, 0, 0, 0, 0, 64, 0, 30, 7, 3, 0);
        due(2, "put", x.put(keyOf(9, 0, 0, 2), 12, 1, 1), 1);
        counts(15, "when all were put anew", x, 16, 64, 0, 0, 0, 0, 0, 0, 0, 8, 64, 0, 57, 0, 15, 0, 0, 0);
        due(14, "alive(0)", x.alive(0), 0);
        for (int s = 1; s < 8; s++) due(14, "alive(" + s + ")", x.alive(s), 8);
        due(14, "alive(8)", x.alive(8), 1);
        due(9, "where of the first", x.where(keyOf(0, 0, 0, 1)), 0);
        due(9, "where of the ninth", x.where(keyOf(8, 0, 0, 1)), 1);
        due(10, "mark of the ninth", x.mark(keyOf(8, 0, 0, 1)), 0);
        due(19, "check", x.check(), 0);
    }

    private static void removing() {
        long a = keyOf(5, 1, 2, 1);
        long b = keyOf(5, 1, 3, 2);
        EmberCache x = new EmberCache();
        due(5, "remove of nothing", x.remove(a), 0);
        x.put(a, 1, 1, 1);
        due(5, "remove", x.remove(a), 1);
        due(5, "remove once more", x.remove(a), 0);
        due(15, "count(12)", x.count(12), 0);
        due(15, "count(14): dead ones take places", x.count(14), 4);
        due(14, "alive(8)", x.alive(8), 0);
        x = new EmberCache();
        putAll(x, 12, a, b);
        spin(x, 63);
        x.put(a, 12, 500, 1);
        due(5, "remove from log and page", x.remove(a), 1);
        due(9, "where", x.where(a), 0);
        page(12, "when a was removed", x, 5, b);
        due(13, "filter", x.filter(5), 0b1010);
        counts(15, "when a was removed", x, 8, 32, 1, 0, 1, 2, 0, 0, 0, 0, 0, 2, 1, 1);
        due(5, "remove of none that the filter stops", x.remove(a), 0);
        due(15, "count(11)", x.count(11), 2);
        due(5, "remove of none that the filter lets through", x.remove(keyOf(5, 3, 1, 7)), 0);
        due(15, "count(11)", x.count(11), 3);
        due(5, "remove from the page", x.remove(b), 1);
        due(11, "stands", x.stands(5), 0);
        due(13, "filter", x.filter(5), 0);
        due(15, "count(4)", x.count(4), 2);
        due(15, "count(13)", x.count(13), 0);
        x.put(b, 1, 1, 1);
        x.close();
        due(5, "remove, SHUT", x.remove(b), SHUT);
        x.open();
        due(9, "where behind SHUT", x.where(b), 1);
    }

    private static void wrongNumbers() {
        EmberCache x = new EmberCache();
        for (int set : new int[] {-1, 64, Integer.MIN_VALUE, Integer.MAX_VALUE}) {
            due(11, "stands(" + set + ")", x.stands(set), BAD);
            due(12, "key(" + set + ", 0)", x.key(set, 0), 0);
            due(13, "filter(" + set + ")", x.filter(set), 0);
        }
        for (int i : new int[] {-1, 0, 8, Integer.MIN_VALUE, Integer.MAX_VALUE}) due(12, "key", x.key(0, i), 0);
        for (int s : new int[] {-1, 9, Integer.MIN_VALUE, Integer.MAX_VALUE}) due(14, "alive", x.alive(s), BAD);
        for (int c : new int[] {-1, 18, Integer.MIN_VALUE, Integer.MAX_VALUE}) {
            due(15, "count", x.count(c), BAD);
        }
        due(9, "where", x.where(0), 0);
        due(10, "mark", x.mark(0), 0);
        x.put(0, 1, 1, 1);
        due(10, "mark", x.mark(0), 0);
        x.get(0);
        due(10, "mark", x.mark(0), 1);
    }

    private static void closing() {
        long a = keyOf(5, 1, 2, 1);
        long b = keyOf(5, 1, 3, 2);
        EmberCache x = new EmberCache();
        putAll(x, 12, a, b);
        spin(x, 63);
        x.get(a);
        due(16, "close", x.close(), 1);
        due(16, "close, SHUT", x.close(), SHUT);
        due(9, "where, SHUT", x.where(a), SHUT);
        due(10, "mark, SHUT", x.mark(a), SHUT);
        due(11, "stands, SHUT", x.stands(5), SHUT);
        due(11, "stands, SHUT first", x.stands(64), SHUT);
        due(12, "key, SHUT", x.key(5, 0), 0);
        due(13, "filter, SHUT", x.filter(5), 0);
        due(14, "alive, SHUT", x.alive(8), SHUT);
        due(14, "alive, SHUT first", x.alive(9), SHUT);
        due(19, "check, SHUT", x.check(), SHUT);
        due(6, "mix, CLOSED", x.mix(1), 4717996019076358352L);
        due(7, "unmix, CLOSED", x.unmix(1), -5444317825690816422L);
        due(8, "setOf, CLOSED", x.setOf(a), 5);
        due(15, "count, CLOSED", x.count(18), BAD);
        counts(15, "CLOSED", x, 8, 32, 1, 0, 0, 2, 0, 0, 0, 0, 0, 2, 1, 2, 15, 0, 0, 1);
        due(18, "open", x.open(), 1);
        due(18, "open of an open one", x.open(), BAD);
        counts(15, "open again", x, 8, 32, 1, 0, 0, 2, 0, 0, 0, 0, 0, 2, 1, 2, 15, 0, 0, 0);
        page(12, "open again", x, 5, a, b);
        due(10, "mark behind close and open", x.mark(a), 1);
        due(13, "filter", x.filter(5), 0b1110);
    }

    private static void crashing() {
        long a = keyOf(5, 1, 2, 1);
        long b = keyOf(5, 1, 3, 2);
        EmberCache x = new EmberCache();
        due(17, "crash of a new one", x.crash(), 0);
        due(18, "open", x.open(), 0);
        putAll(x, 12, a, b);
        spin(x, 75);
        putAll(x, 1, a, b);
        counts(15, "before the crash", x, 9, 38, 1, 0, 0, 2, 0, 0, 0, 0, 0, 1, 3, 2, 23, 1, 2, 0);
        x.close();
        due(17, "crash of a CLOSED one", x.crash(), 3);
        counts(15, "behind the crash", x, 9, 38, 1, 0, 0, 2, 0, 0, 0, 0, 0, 1, 0, 0, 0, 0, 0, 1);
        due(17, "crash once more", x.crash(), 0);
        due(9, "where, SHUT", x.where(a), SHUT);
        due(16, "close, SHUT", x.close(), SHUT);
        due(18, "open", x.open(), 0);
        due(9, "where", x.where(a), 0);
        page(12, "behind the crash", x, 5);
        due(13, "filter", x.filter(5), 0);
        for (int s = 0; s <= 8; s++) due(14, "alive", x.alive(s), 0);
        due(19, "check", x.check(), 0);
        spin(x, 64);
        counts(15, "a ring later", x, 16, 69, 1, 0, 0, 2, 0, 0, 0, 0, 0, 1, 1, 0, 30, 7, 3, 0);
        due(17, "crash of an open one", x.crash(), 1);
        due(15, "count(17)", x.count(17), 1);
    }

    /** Past its 512 calls an object's answers are free, but a call still ends and throws nothing. */
    private static void longRun() {
        EmberCache x = new EmberCache();
        for (int i = 0; i < 20000; i++) {
            x.put(i * 7919L % 700, 1 + i % 12, i, i);
            x.get(i * 104729L % 700);
            if (i % 1000 == 0) x.check();
        }
    }

    public static void main(String[] args) {
        newObject();
        putEdges();
        getAndGot();
        mixing();
        movedTogether();
        movedFromEverywhere();
        droppedInThePage();
        droppedUnmarkedFirst();
        droppedAlone();
        putAnew();
        allPutAnew();
        removing();
        wrongNumbers();
        closing();
        crashing();
        longRun();
        System.out.println(wrong == 0 ? "all answers are as due" : wrong + " answers are not as due");
        if (wrong != 0) System.exit(1);
    }
}
