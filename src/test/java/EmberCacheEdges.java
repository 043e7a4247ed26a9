import java.math.BigInteger;
import java.util.function.LongUnaryOperator;

/**
 * The boundary cases: each sentence of the document that names one has a test of its own,
 * which quotes it. The answers were worked out by hand.
 */
public final class EmberCacheEdges {
    private static final int BAD = -1, SHUT = -2;
    private static final int LOW = Integer.MIN_VALUE, HIGH = Integer.MAX_VALUE;
    private static final long[] EDGE_KEYS = {0, 1, -1, 2, -2, 63, 64, -64, HIGH, LOW, 1L << 31, 1L << 32,
        0xFFFFFFFFL, ~0xFFFFFFFFL, Long.MAX_VALUE, Long.MIN_VALUE, Long.MAX_VALUE - 1, Long.MIN_VALUE + 1};
    private static final BigInteger TWO_TO_64 = BigInteger.ONE.shiftLeft(64);
    private static final BigInteger FACTOR = new BigInteger("D6E8FEB86659FD93", 16);
    // Put again and again, this one is alive only once: it turns the ring and leaves nothing.
    private static final long FILLER = keyOf(63, 63, 63, 9);

    private static int wrong = 0;
    private static String sentence = "";

    private static void says(String quoted) {
        sentence = quoted;
    }

    private static void due(String what, long got, long want) {
        if (got != want) {
            wrong++;
            System.out.println("'" + sentence + "': " + what + " answered " + got + ", due is " + want);
        }
    }

    private static BigInteger foldDown(BigInteger x) {
        return x.xor(x.shiftRight(32));
    }

    /** The MIX as the document tells it, over whole numbers without an end. */
    private static long mixOf(long key) {
        BigInteger x = BigInteger.valueOf(key).mod(TWO_TO_64);
        x = foldDown(x).multiply(FACTOR).mod(TWO_TO_64);
        x = foldDown(x).multiply(FACTOR).mod(TWO_TO_64);
        return foldDown(x).longValue();
    }

    /** The other way round; folding twice is as not folding. */
    private static long keyWithMix(long mixed) {
        BigInteger inverse = FACTOR.modInverse(TWO_TO_64);
        BigInteger x = BigInteger.valueOf(mixed).mod(TWO_TO_64);
        x = foldDown(x).multiply(inverse).mod(TWO_TO_64);
        x = foldDown(x).multiply(inverse).mod(TWO_TO_64);
        return foldDown(x).longValue();
    }

    /** A key of a set, with two filter bits; keys of a different number differ. */
    private static long keyOf(int set, int one, int other, int number) {
        return keyWithMix(((long) number << 18) | ((long) other << 12) | ((long) one << 6) | set);
    }

    /** Keys of one set, key number i with the filter bit i alone. */
    private static long[] keysOf(int set, int many) {
        long[] keys = new long[many];
        for (int i = 0; i < many; i++) keys[i] = keyOf(set, i, i, i + 1);
        return keys;
    }

    /** A cache, with a count of the log's pages kept beside it that is right while nothing is put anew. */
    private static final class Ring {
        final EmberCache x = new EmberCache();
        int open, pages;

        Ring put(int n, long... keys) {
            for (long key : keys) {
                if (open + 3 + n > 32) {
                    pages++;
                    open = 0;
                }
                open += 3 + n;
                due("put", x.put(key, n, 100 * n, 1), 1);
            }
            return this;
        }

        /** Each of them in a page of its own, with a filler before it. */
        Ring putApart(int n, long... keys) {
            for (long key : keys) {
                put(12, FILLER);
                if (open > 15) put(12, FILLER);
                put(n, key);
            }
            return this;
        }

        Ring spinTo(int goal) {
            while (pages < goal) put(12, FILLER);
            return this;
        }

        /** Till segment 0 is emptied the next time. */
        Ring turn() {
            return spinTo((pages / 32 + 1) * 32);
        }

        Ring mark(long... keys) {
            for (long key : keys) due("get, for its mark", x.get(key) > 0 ? 1 : 0, 1);
            return this;
        }
    }

    private static void counts(String when, EmberCache x, int from, int... want) {
        for (int i = 0; i < want.length; i++) {
            due("count(" + (from + i) + ") " + when, x.count(from + i), want[i]);
        }
    }

    private static void page(String when, EmberCache x, int set, long... keys) {
        due("stands " + when, x.stands(set), keys.length);
        for (int i = 0; i < keys.length; i++) due("key " + i + " " + when, x.key(set, i), keys[i]);
        due("key behind the last " + when, x.key(set, keys.length), 0);
    }

    private static void aliveIn(String when, EmberCache x, int... want) {
        for (int s = 0; s < want.length; s++) due("alive(" + s + ") " + when, x.alive(s), want[s]);
    }

    /** All that can be asked of an open cache about a set and some keys. */
    private static long[] look(EmberCache x, int set, long... keys) {
        long[] seen = new long[50 + 2 * keys.length];
        int k = 0;
        for (int what = 0; what < 18; what++) seen[k++] = x.count(what);
        for (int s = 0; s < 9; s++) seen[k++] = x.alive(s);
        for (int i = 0; i < 13; i++) seen[k++] = x.got(i);
        for (int i = 0; i < 8; i++) seen[k++] = x.key(set, i);
        seen[k++] = x.stands(set);
        seen[k++] = x.filter(set);
        for (long key : keys) {
            seen[k++] = x.where(key);
            seen[k++] = x.mark(key);
        }
        return seen;
    }

    private static void same(String when, long[] before, long[] after) {
        for (int i = 0; i < before.length; i++) due("look number " + i + " " + when, after[i], before[i]);
    }

    // ---- Terms: keys, values, places

    private static void mixOfEdges() {
        says("MIX of a key .. all as 64 bits");
        EmberCache x = new EmberCache();
        for (long key : EDGE_KEYS) due("mix(" + key + ")", x.mix(key), mixOf(key));
        due("mix(0)", x.mix(0), 0);
        for (int bit = 0; bit < 64; bit++) due("mix, bit " + bit, x.mix(1L << bit), mixOf(1L << bit));
    }

    private static void unmixOfEdges() {
        says("Each long is the MIX of just one key.");
        EmberCache x = new EmberCache();
        for (long edge : EDGE_KEYS) {
            due("unmix of the MIX of " + edge, x.unmix(mixOf(edge)), edge);
            due("unmix(" + edge + ")", x.unmix(edge), keyWithMix(edge));
        }
        due("unmix(0)", x.unmix(0), 0);
        for (int bit = 0; bit < 64; bit++) due("unmix, bit " + bit, x.unmix(1L << bit), keyWithMix(1L << bit));
    }

    private static void setsOfEdges() {
        says("The SET of a key, 0 .. 63, is the lowest 6 bits of its MIX.");
        EmberCache x = new EmberCache();
        for (long key : EDGE_KEYS) due("setOf(" + key + ")", x.setOf(key), mixOf(key) & 63);
        for (int set = 0; set < 64; set++) {
            due("setOf, nothing else set", x.setOf(keyWithMix(set)), set);
            due("setOf, all else set", x.setOf(keyWithMix(-64 | set)), set);
        }
        due("setOf of the MIX 64", x.setOf(keyWithMix(64)), 0);
    }

    private static void keysAreLongs() {
        says("KEYS are longs.");
        EmberCache x = new EmberCache();
        for (int i = 0; i < EDGE_KEYS.length; i++) due("put", x.put(EDGE_KEYS[i], 1 + i % 12, i, 1), 1);
        due("count(12): they all differ", x.count(12), EDGE_KEYS.length);
        for (int i = 0; i < EDGE_KEYS.length; i++) {
            due("get(" + EDGE_KEYS[i] + ")", x.get(EDGE_KEYS[i]), 1 + i % 12);
            due("got(0) of " + EDGE_KEYS[i], x.got(0), i);
        }
        for (long key : EDGE_KEYS) {
            due("remove(" + key + ")", x.remove(key), 1);
            due("where(" + key + ")", x.where(key), 0);
        }
        due("count(12)", x.count(12), 0);
    }

    /** A key of the same SET, with another one of its two halves. */
    private static long mateWithOtherHalf(long key, int shift) {
        int set = (int) (mixOf(key) & 63);
        long mate = key;
        for (long i = 1; i < 100000 && (mate == key || (mixOf(mate) & 63) != set); i++) mate = key ^ (i << shift);
        return mate;
    }

    private static void keysThatShareAHalf() {
        says("Keys differ: as 64 bits, be it in one half alone");
        long a = keyOf(5, 1, 2, 3);
        long high = mateWithOtherHalf(a, 32);
        long low = mateWithOtherHalf(a, 0);
        Ring r = new Ring().put(1, a).put(2, high).put(3, low).turn();
        page("of three", r.x, 5, a, high, low);
        due("get", r.x.get(a), 1);
        due("get of the other high half", r.x.get(high), 2);
        due("get of the other low half", r.x.get(low), 3);
        due("remove of the other high half", r.x.remove(high), 1);
        page("of two", r.x, 5, a, low);
        r.put(4, low).put(5, high).turn();
        page("of three again", r.x, 5, a, low, high);
    }

    private static void keyZeroStands() {
        says("Each long is the MIX of just one key: 0 stands in a page as any other");
        Ring r = new Ring().put(2, 0, keyOf(0, 1, 1, 1)).turn();
        page("with the key 0", r.x, 0, 0, keyOf(0, 1, 1, 1));
        due("filter(0)", r.x.filter(0), 0b11);
        due("where(0)", r.x.where(0), 2);
        due("get(0)", r.x.get(0), 2);
        due("remove(0)", r.x.remove(0), 1);
        page("without the key 0", r.x, 0, keyOf(0, 1, 1, 1));
        due("filter(0)", r.x.filter(0), 0b10);
    }

    private static void placesOfEachLength() {
        says("it takes 3 + n PLACES of a page, n being its WORDS");
        for (int n = 1; n <= 12; n++) {
            Ring r = new Ring().put(n, 7);
            due("count(14) with " + n + " words", r.x.count(14), 3 + n);
        }
    }

    // ---- Terms: the log

    private static void openPageJustFull() {
        says("Each PAGE has 32 places: the open page takes 32 just so");
        Ring r = new Ring().put(1, keysOf(5, 8));
        counts("of eight with one word", r.x, 12, 8, 0, 32, 0, 0);
        due("count(1): it is not written yet", r.x.count(1), 0);
        due("alive(8)", r.x.alive(8), 8);
        r.put(1, FILLER);
        counts("of one more", r.x, 12, 9, 0, 4, 0, 1);
        due("count(1)", r.x.count(1), 1);
        aliveIn("behind it", r.x, 8, 0, 0, 0, 0, 0, 0, 0, 1);
        r = new Ring().put(12, 1).put(10, 2).put(1, 3);
        due("count(1) of 15 + 13 + 4", r.x.count(1), 0);
        due("count(14) of 15 + 13 + 4", r.x.count(14), 32);
    }

    private static void openPageOneTooMuch() {
        says("as long as it does not fit into the open page any more, that is WRITTEN: as the next page of the HEAD");
        Ring r = new Ring().put(12, 1).put(11, 2).put(1, 3);
        due("count(1) of 15 + 14 + 4", r.x.count(1), 1);
        counts("of 15 + 14 + 4", r.x, 12, 3, 0, 4, 0, 1);
        aliveIn("of 15 + 14 + 4", r.x, 2, 0, 0, 0, 0, 0, 0, 0, 1);
        r = new Ring().put(12, 1, 2).put(1, 3);
        due("count(1) of 15 + 15 + 4", r.x.count(1), 1);
        due("count(14) of 15 + 15 + 4", r.x.count(14), 4);
    }

    private static void deadOnesTakePlaces() {
        says("14 places that the open page's objects take (dead ones, too)");
        Ring r = new Ring().put(1, 5, 5, 5, 5, 5, 5, 5, 5);
        counts("of one that was put eight times", r.x, 12, 1, 0, 32, 0, 0);
        due("remove", r.x.remove(5), 1);
        counts("with dead ones alone", r.x, 12, 0, 0, 32, 0, 0);
        due("alive(8)", r.x.alive(8), 0);
        r.put(1, 5);
        due("count(1): dead ones are written, too", r.x.count(1), 1);
        counts("of one more", r.x, 12, 1, 0, 4, 0, 1);
        aliveIn("of one more", r.x, 0, 0, 0, 0, 0, 0, 0, 0, 1);
    }

    private static void segmentFilled() {
        says("if the HEAD has 4 pages then, it is FILLED");
        Ring r = new Ring();
        for (int i = 0; i < 32; i++) r.put(1, keyOf(i, 0, 0, 1));
        due("count(0) before", r.x.count(0), 0);
        counts("before", r.x, 12, 32, 0, 32, 0, 3);
        aliveIn("before", r.x, 24, 0, 0, 0, 0, 0, 0, 0, 8);
        r.put(1, keyOf(32, 0, 0, 1));
        counts("filled", r.x, 0, 1, 4, 0, 0, 0, 0, 0, 0, 0, 0, 0, 0, 33, 0, 4, 1, 0, 0);
        aliveIn("filled", r.x, 32, 0, 0, 0, 0, 0, 0, 0, 1);
    }

    private static void zeroBehindSeven() {
        says("the segment behind it (0 behind 7) becomes the HEAD");
        Ring r = new Ring();
        for (int filled = 1; filled <= 18; filled++) {
            r.spinTo(4 * filled);
            due("count(15)", r.x.count(15), filled % 8);
            due("count(16)", r.x.count(16), 0);
            due("count(0)", r.x.count(0), filled);
            due("count(1)", r.x.count(1), 4 * filled);
        }
    }

    private static void segmentWithoutPages() {
        says("if that has pages it is EMPTIED: in the first round none has");
        Ring r = new Ring();
        for (int set = 0; set < 64; set++) r.put(12, keyOf(set, 0, 0, 1));
        counts("in the first round", r.x, 0, 7, 31, 0, 0, 0, 0, 0, 0, 0, 0, 0, 0, 64, 0, 30, 7, 3, 0);
        aliveIn("in the first round", r.x, 8, 8, 8, 8, 8, 8, 8, 6, 2);
        r.put(12, FILLER);
        counts("in the second", r.x, 0, 8, 32, 0, 0, 0, 0, 0, 0, 0, 8, 0, 0, 57, 0, 15, 0, 0, 0);
        aliveIn("in the second", r.x, 0, 8, 8, 8, 8, 8, 8, 8, 1);
    }

    private static void noPagesBehindCrash() {
        says("behind crash() .. the log .. empty: no segment has pages in the round that follows");
        Ring r = new Ring();
        for (int set = 0; set < 40; set++) r.put(12, keyOf(set, 0, 0, 1));
        due("crash", r.x.crash(), 40);
        due("open", r.x.open(), 0);
        for (int set = 0; set < 64; set++) r.put(12, keyOf(set, 1, 1, 2));
        counts("a round later", r.x, 0, 4 + 7, 19 + 31, 0, 0, 0, 0, 0, 0, 0, 0, 0, 0, 64, 0, 30, 7, 3, 0);
        aliveIn("a round later", r.x, 8, 8, 8, 8, 8, 8, 8, 6, 2);
        for (int set = 0; set < 40; set++) due("where", r.x.where(keyOf(set, 0, 0, 1)), 0);
    }

    private static void appendedWithoutMark() {
        says("the object comes to the end of the open page, alive, without a mark");
        Ring r = new Ring().put(3, 8).mark(8);
        due("mark", r.x.mark(8), 1);
        r.put(2, 8);
        due("mark of what was put over it", r.x.mark(8), 0);
        due("get", r.x.get(8), 2);
        due("count(12): one of a key", r.x.count(12), 1);
        due("alive(8)", r.x.alive(8), 1);
        due("count(14)", r.x.count(14), 11);
    }

    private static void deadBeforeItIsAppended() {
        says("one with the same key that is alive in the log is dead first");
        long[] k = keysOf(5, 2);
        Ring r = new Ring().put(12, k).spinTo(31).put(12, FILLER).put(12, k[0]);
        due("count(0): the put emptied segment 0", r.x.count(0), 8);
        counts("b is alone there", r.x, 5, 0, 0, 0, 0, 1, 0, 0, 2, 0);
        due("where of a", r.x.where(k[0]), 1);
        due("where of b", r.x.where(k[1]), 0);
        due("stands", r.x.stands(5), 0);
    }

    private static void notYetAppended() {
        says("Then the object comes to the end of the open page: it is no mate of what is emptied before");
        long[] k = keysOf(5, 2);
        Ring r = new Ring().put(12, k[0]).spinTo(31).put(12, FILLER).put(12, k[1]);
        due("count(0): the put emptied segment 0", r.x.count(0), 8);
        counts("a is alone there", r.x, 5, 0, 0, 0, 0, 1, 0, 0, 2, 0);
        due("where of a", r.x.where(k[0]), 0);
        due("where of b", r.x.where(k[1]), 1);
    }

    private static void deadOnesAreNotGoneThrough() {
        says("the objects that were alive there are gone through");
        long[] k = keysOf(5, 3);
        Ring r = new Ring().put(12, k).mark(k);
        for (long key : k) due("remove", r.x.remove(key), 1);
        r.turn();
        counts("with dead ones alone", r.x, 2, 0, 0, 0, 0, 0, 0, 0, 0, 0, 0, 1, 0);
    }

    private static void goneThroughInOrder() {
        says("gone through, in the order in which they were appended: what is put anew lies so, too");
        long[] k = {keyOf(1, 0, 0, 1), keyOf(2, 0, 0, 1), keyOf(3, 0, 0, 1), keyOf(4, 0, 0, 1)};
        Ring r = new Ring().put(12, k[0], k[1]).put(1, k[2]).put(12, k[3]).mark(k);
        r.spinTo(31).put(12, FILLER).put(1, FILLER);
        counts("15 + 15, 4 + 15", r.x, 0, 8, 33, 0, 0, 0, 0, 0, 0, 0, 0, 4, 0, 5, 0, 23, 0, 1, 0);
        aliveIn("15 + 15, 4 + 15", r.x, 2, 0, 0, 0, 0, 0, 0, 0, 3);
        r.x.remove(k[0]);
        r.x.remove(k[1]);
        aliveIn("the first two lie in the first page", r.x, 0, 0, 0, 0, 0, 0, 0, 0, 3);
    }

    private static void goneThroughWhileAlive() {
        says("each that is alive still");
        long[] a = keysOf(5, 2);
        long[] b = keysOf(6, 2);
        Ring r = new Ring().put(12, a[0], b[0], a[1], b[1]).turn();
        counts("each set is moved once", r.x, 2, 2, 0, 0, 4, 0, 0, 0, 0, 0, 2, 1, 4);
        page("of one", r.x, 5, a);
        page("of the other", r.x, 6, b);
    }

    private static void twoAreMoved() {
        says("If there are two or more, they are all MOVED.");
        long[] k = keysOf(5, 3);
        Ring r = new Ring().put(12, k[0], k[1]).mark(k[0], k[1]).turn();
        counts("two, though they have marks", r.x, 2, 1, 0, 0, 2, 0, 0, 0, 0, 0, 1, 1, 2);
        r = new Ring().put(12, k[0]).turn();
        counts("one", r.x, 2, 0, 0, 0, 0, 0, 0, 0, 1, 0, 0, 1, 0);
        r = new Ring().put(4, k).turn();
        counts("three", r.x, 2, 1, 0, 0, 3, 0, 0, 0, 0, 0, 1, 1, 3);
    }

    private static void mateInTheNewestPage() {
        says("the objects of its SET that are alive in the log (.. in other segments ..) are counted");
        long[] k = keysOf(5, 2);
        Ring r = new Ring().put(12, k[0]).spinTo(31).put(12, k[1]);
        aliveIn("before", r.x, 1, 0, 0, 0, 0, 0, 0, 0, 2);
        r.put(12, FILLER);
        counts("moved with one of the page written just then", r.x, 5, 2, 0, 0, 0, 0, 0, 1, 1, 2);
        page("moved", r.x, 5, k);
        aliveIn("behind", r.x, 0, 0, 0, 0, 0, 0, 0, 0, 1);
    }

    private static void orderAcrossTheRing() {
        says("they come behind all that are left, in the order in which they were appended");
        long[] k = keysOf(5, 5);
        Ring r = new Ring().spinTo(12).put(1, k[4]).spinTo(17).put(1, k[3]).spinTo(29).put(1, k[2]);
        r.spinTo(33).put(1, k[1]).spinTo(43).put(1, k[0]);
        aliveIn("before segment 3 is emptied", r.x, 1, 0, 0, 1, 1, 0, 0, 1, 2);
        r.spinTo(44);
        page("from segments 3, 4, 7, 0, 2", r.x, 5, k[4], k[3], k[2], k[1], k[0]);
        counts("from segments 3, 4, 7, 0, 2", r.x, 0, 11, 44, 1, 0, 0, 5, 0, 0, 0, 0, 0, 1, 1, 5, 15, 3, 0);
    }

    private static void onlyOneWithMark() {
        says("If it is the only one: with a mark it is PUT ANEW: APPENDED (without a mark)");
        long a = keyOf(5, 1, 2, 1);
        Ring r = new Ring().put(3, a).mark(a).turn();
        counts("put anew", r.x, 0, 8, 32, 0, 0, 0, 0, 0, 0, 0, 0, 1, 0, 2, 0, 21, 0, 0, 0);
        due("mark", r.x.mark(a), 0);
        due("where", r.x.where(a), 1);
        aliveIn("put anew", r.x, 0, 0, 0, 0, 0, 0, 0, 0, 2);
        due("get", r.x.get(a), 3);
        due("got(2)", r.x.got(2), 302);
    }

    private static void onlyOneWithoutMark() {
        says("without a mark it is DROPPED ALONE, and if its key stands in the page of its SET, that one is TAKEN OUT there");
        long[] k = keysOf(5, 2);
        Ring r = new Ring().put(12, k).turn().put(1, k[1]);
        due("where of the newer one", r.x.where(k[1]), 1);
        r.turn();
        counts("with its key in the page", r.x, 2, 1, 1, 0, 2, 0, 0, 0, 1, 0, 2, 1, 1);
        page("with its key in the page", r.x, 5, k[0]);
        due("filter", r.x.filter(5), 1);
        due("an old value never comes back", r.x.get(k[1]), 0);
        r.put(1, k[0]).turn();
        counts("with the last of the page", r.x, 2, 1, 2, 0, 2, 0, 0, 0, 2, 0, 3, 1, 0);
        due("filter of an empty page", r.x.filter(5), 0);
        page("of an empty page", r.x, 5);
    }

    private static void droppedAloneWithoutPage() {
        says("if its key stands in the page of its SET: it does not");
        long[] k = keysOf(5, 3);
        Ring r = new Ring().put(12, k[0]).turn();
        counts("the page being empty", r.x, 2, 0, 0, 0, 0, 0, 0, 0, 1, 0, 0);
        r = new Ring().put(12, k[0], k[1]).turn().put(12, k[2]).turn();
        counts("the filter being against it", r.x, 2, 1, 0, 0, 2, 0, 0, 0, 1, 0, 1);
        page("the filter being against it", r.x, 5, k[0], k[1]);
        r.put(12, keyOf(5, 0, 1, 7)).turn();
        counts("the filter being for it: READ, not written", r.x, 2, 1, 0, 0, 2, 0, 0, 0, 2, 0, 2);
        page("the filter being for it", r.x, 5, k[0], k[1]);
    }

    private static void putAnewFillsAllPages() {
        says("What is put anew takes no more pages than there were: all of a full segment");
        Ring r = new Ring();
        for (int set = 0; set < 32; set++) r.put(1, keyOf(set, 0, 0, 1)).mark(keyOf(set, 0, 0, 1));
        r.spinTo(31).put(12, FILLER);
        aliveIn("before", r.x, 32, 0, 0, 0, 0, 0, 0, 0, 1);
        r.put(1, keyOf(40, 0, 0, 1));
        counts("the page is full again, so the HEAD is", r.x, 0, 9, 36, 0, 0, 0, 0, 0, 0, 0, 0, 32, 0, 34, 0, 4, 1, 0, 0);
        aliveIn("behind", r.x, 32, 0, 0, 0, 0, 0, 0, 1, 1);
        for (int set = 0; set < 32; set++) due("mark", r.x.mark(keyOf(set, 0, 0, 1)), 0);
        due("check", r.x.check(), 0);
    }

    private static void putAnewLeavesRoom() {
        says("What is put anew takes no more pages than there were: all but one of a full segment");
        Ring r = new Ring();
        for (int set = 0; set < 32; set++) r.put(1, keyOf(set, 0, 0, 1));
        for (int set = 0; set < 32; set++) if (set != 7) r.mark(keyOf(set, 0, 0, 1));
        r.spinTo(31).put(12, FILLER).put(1, keyOf(40, 0, 0, 1));
        counts("the open page is just full", r.x, 0, 8, 35, 0, 0, 0, 0, 0, 0, 0, 1, 31, 0, 33, 0, 32, 0, 3, 0);
        aliveIn("behind", r.x, 24, 0, 0, 0, 0, 0, 0, 1, 8);
        due("where of the one without a mark", r.x.where(keyOf(7, 0, 0, 1)), 0);
        r.x.put(FILLER, 1, 1, 1);
        counts("one more", r.x, 0, 9, 36, 0, 0, 0, 0, 0, 0, 0, 1, 31, 0, 33, 0, 4, 1, 0, 0);
    }

    /** Objects of all lengths fill segment 0, each of its own SET; all but one are put anew. */
    private static void putAnewButOne(int many, int missing) {
        Ring r = new Ring();
        int anewPages = 0;
        int anewOpen = 0;
        for (int set = 0; set < many; set++) {
            int n = lengthOf(set);
            r.put(n, keyOf(set, 0, 0, 1));
            if (set == missing) continue;
            r.mark(keyOf(set, 0, 0, 1));
            anewPages += anewOpen + 3 + n > 32 ? 1 : 0;
            anewOpen = anewOpen + 3 + n > 32 ? 3 + n : anewOpen + 3 + n;
        }
        due("pages of segment 0, the open one, too", r.pages + 1, 4);
        due("what is put anew fits into them without " + missing, anewPages < 4 ? 1 : 0, 1);
        r.spinTo(31).put(12, FILLER).put(1, FILLER);
        int pages = anewPages + (anewOpen + 4 > 32 ? 1 : 0);
        counts("without " + missing, r.x, 9, 1, many - 1);
        due("count(1) without " + missing, r.x.count(1), 32 + pages);
        due("count(0) without " + missing, r.x.count(0), 8 + pages / 4);
        due("count(14) without " + missing, r.x.count(14), anewOpen + 4 > 32 ? 4 : anewOpen + 4);
        due("count(12) without " + missing, r.x.count(12), many);
    }

    private static int lengthOf(int i) {
        return 1 + 7 * i % 12;
    }

    private static void putAnewWithGaps() {
        says("What is put anew takes no more pages than there were: whichever is missing");
        int pages = 0;
        int many = 0;
        for (int open = 0; pages < 4; many++) {
            pages += open + 3 + lengthOf(many) > 32 ? 1 : 0;
            open = open + 3 + lengthOf(many) > 32 ? 3 + lengthOf(many) : open + 3 + lengthOf(many);
        }
        for (int missing = 0; missing < many - 1; missing++) putAnewButOne(many - 1, missing);
    }

    private static void writtenAgainAndAgain() {
        says("as long as it does not fit into the open page any more, that is WRITTEN: segment for segment, if all is put anew");
        Ring r = new Ring();
        for (int set = 0; set < 64; set++) r.put(12, keyOf(set, 0, 0, 1));
        for (int set = 0; set < 24; set++) r.mark(keyOf(set, 0, 0, 1));
        due("put", r.x.put(FILLER, 12, 0, 0), 1);
        counts("three segments were put anew, one dropped", r.x, 0, 11, 44, 0, 0, 0, 0, 0, 0, 0, 8, 24, 0, 57, 0, 15, 3, 0, 0);
        aliveIn("three segments were put anew, one dropped", r.x, 8, 8, 8, 0, 8, 8, 8, 8, 1);
        for (int set = 0; set < 64; set++) due("where", r.x.where(keyOf(set, 0, 0, 1)), set < 24 || set > 31 ? 1 : 0);
        due("check", r.x.check(), 0);
    }

    private static void putAnewIsTheNewest() {
        says("PUT ANEW: APPENDED: it is younger then than what was appended before");
        long[] k = keysOf(5, 2);
        Ring r = new Ring().put(12, k[1]).mark(k[1]).turn();
        due("count(10)", r.x.count(10), 1);
        due("count(14)", r.x.count(14), 30);
        // The open page is full already, which the ring's own count does not know.
        r.x.put(k[0], 12, 0, 0);
        for (int i = 0; i < 61; i++) r.x.put(FILLER, 12, 0, 0);
        due("count(5) before", r.x.count(5), 0);
        r.x.put(FILLER, 12, 0, 0);
        due("count(5)", r.x.count(5), 2);
        page("a round later", r.x, 5, k[1], k[0]);
    }

    // ---- Terms: the set pages

    private static void filterBitsAtTheEnds() {
        says("those with the numbers (MIX >>> 6) & 63 and (MIX >>> 12) & 63 are set, others not");
        long a = keyOf(5, 0, 63, 1);
        long b = keyOf(5, 17, 17, 2);
        Ring r = new Ring().put(3, a, b).turn();
        due("filter with bits 0, 17, 63", r.x.filter(5), Long.MIN_VALUE | 1L << 17 | 1L);
        r.x.remove(a);
        due("filter with bit 17", r.x.filter(5), 1L << 17);
        r = new Ring().put(3, keyWithMix(5), keyWithMix(-64 | 5)).turn();
        due("filter with bits 0, 63 of a MIX of ones", r.x.filter(5), Long.MIN_VALUE | 1L);
        r = new Ring().put(3, keyOf(5, 1, 2, 1), keyOf(5, 2, 3, 2)).turn();
        r.x.remove(keyOf(5, 2, 3, 2));
        due("a bit that both had stays", r.x.filter(5), 0b110);
    }

    private static void mayHaveNeedsBothBits() {
        says("a page MAY HAVE a key if both its bits are set");
        Ring r = new Ring().put(3, keyOf(5, 1, 2, 1), keyOf(5, 3, 4, 2)).turn();
        due("count(11)", r.x.count(11), 1);
        due("get with one bit", r.x.get(keyOf(5, 1, 9, 3)), 0);
        due("get with the other bit", r.x.get(keyOf(5, 9, 4, 3)), 0);
        due("get in another set", r.x.get(keyOf(6, 1, 2, 3)), 0);
        due("remove with one bit", r.x.remove(keyOf(5, 1, 9, 3)), 0);
        due("count(11): none was READ", r.x.count(11), 1);
        due("get with bits of two keys", r.x.get(keyOf(5, 4, 1, 3)), 0);
        due("count(11): it was READ", r.x.count(11), 2);
        due("remove with bits of two keys", r.x.remove(keyOf(5, 2, 3, 3)), 0);
        due("count(11): it was READ", r.x.count(11), 3);
        due("count(4): and not written", r.x.count(4), 0);
        due("stands", r.x.stands(5), 2);
    }

    private static void whatIsNotRead() {
        says("A page is READ, which is counted, when it is looked for a key that it MAY HAVE");
        long[] k = keysOf(5, 2);
        Ring r = new Ring().put(3, k).turn();
        r.put(3, k[0]);
        due("count(11): a put reads nothing", r.x.count(11), 1);
        r.mark(k[0]);
        due("count(11): nor does a get from the log", r.x.count(11), 1);
        r.mark(k[1]);
        due("count(11): but from the page", r.x.count(11), 2);
        r.x.got(0);
        r.x.stands(5);
        r.x.key(5, 0);
        r.x.filter(5);
        r.x.alive(8);
        r.x.check();
        due("count(11): looking in reads nothing", r.x.count(11), 2);
        r.x.remove(k[0]);
        due("count(11): a remove does, though it was in the log, too", r.x.count(11), 3);
    }

    private static void movingReadsOnce() {
        says("A page is READ .. when it is written for moving");
        long[] k = keysOf(5, 4);
        Ring r = new Ring().put(3, k[0], k[1]).turn();
        due("count(11), the page being empty", r.x.count(11), 1);
        r.put(3, k).turn();
        due("count(11), with keys that stood and new ones", r.x.count(11), 2);
        due("count(2)", r.x.count(2), 2);
    }

    private static void oldOnesGo() {
        says("objects of the page that have the key of one of them go");
        long[] k = keysOf(5, 2);
        Ring r = new Ring().put(12, k).turn().mark(k[0]).put(11, k[1], k[0]).turn();
        counts("no other is DROPPED for them", r.x, 2, 2, 0, 0, 4, 0, 0, 0, 0, 0, 3, 1, 2);
        page("in the order of the newer ones", r.x, 5, k[1], k[0]);
        due("get", r.x.get(k[0]), 11);
        due("get", r.x.get(k[1]), 11);
    }

    private static void leftOnesStayBefore() {
        says("they come behind all that are left");
        long[] k = keysOf(5, 5);
        Ring r = new Ring().put(1, k[0], k[1], k[2]).turn().put(1, k[3], k[1], k[4]).turn();
        page("0 and 2 were left", r.x, 5, k[0], k[2], k[3], k[1], k[4]);
        due("count(13)", r.x.count(13), 5);
    }

    private static void setPageJustFull() {
        says("as long as these take more than 32 places together: 32 just so");
        long[] k = keysOf(5, 8);
        Ring r = new Ring().put(1, k).turn();
        page("eight of 4", r.x, 5, k);
        counts("eight of 4", r.x, 5, 8, 0, 0, 0, 0, 0, 1, 1, 8);
        r = new Ring().put(12, k[0]).put(1, k[1]).turn();
        page("15 + 4", r.x, 5, k[0], k[1]);
        r.put(2, k[2]).put(5, k[3]).turn();
        page("15 + 4 + 5 + 8", r.x, 5, k[0], k[1], k[2], k[3]);
        counts("15 + 4 + 5 + 8", r.x, 5, 4, 0, 0, 0, 0, 0, 2, 1, 4);
        due("check", r.x.check(), 0);
    }

    private static void setPageOneTooMuch() {
        says("as long as these take more than 32 places together, one is DROPPED: 33");
        long[] k = keysOf(5, 4);
        Ring r = new Ring().put(12, k[0]).put(1, k[1]).turn().put(2, k[2]).put(6, k[3]).turn();
        page("15 + 4 + 5 + 9", r.x, 5, k[1], k[2], k[3]);
        due("filter: what was DROPPED is not in it", r.x.filter(5), 0b1110);
        counts("15 + 4 + 5 + 9", r.x, 5, 4, 1, 0, 0, 0, 0, 2, 1, 3);
        r = new Ring().put(12, k[0]).put(11, k[1]).put(1, k[2]).turn();
        page("15 + 14 + 4, all moved", r.x, 5, k[1], k[2]);
        counts("15 + 14 + 4, all moved", r.x, 5, 3, 0, 0, 1, 0, 0, 1, 1, 2);
    }

    private static void nineMoved() {
        says("else the first of those that were moved");
        long[] k = keysOf(5, 9);
        Ring r = new Ring().put(1, k).mark(k[0]).turn();
        page("the first of nine, though it has a mark", r.x, 5, k[1], k[2], k[3], k[4], k[5], k[6], k[7], k[8]);
        counts("the first of nine", r.x, 2, 1, 0, 0, 9, 0, 0, 1, 0, 0, 1, 1, 8);
        due("where of the first", r.x.where(k[0]), 0);
        due("filter", r.x.filter(5), 0b111111110);
        for (int i = 1; i < 9; i++) due("get " + i, r.x.get(k[i]), 1);
    }

    private static void asManyMovedAsTheLogHolds() {
        says("as long as these take more than 32 places together: the whole log is of one SET");
        EmberCache x = new EmberCache();
        for (int i = 0; i < 257; i++) x.put(keyOf(5, i % 64, i / 64, i + 1), 1, i, 0);
        counts("moved all but the one that is put", x, 0, 8, 32, 1, 0, 0, 256, 0, 0, 248, 0, 0, 1, 1, 8, 4, 0, 0, 0);
        for (int i = 0; i < 8; i++) due("key", x.key(5, i), keyOf(5, (248 + i) % 64, (248 + i) / 64, 249 + i));
        due("check", x.check(), 0);
    }

    /** p, q, r, s of 8 places each stand in the page of set 5, p and r with a mark. */
    private static Ring fourStand(long[] k) {
        return new Ring().put(5, k[0], k[1], k[2], k[3]).turn().mark(k[0], k[2]);
    }

    private static void droppedFirstWithoutMark() {
        says("the first without a mark of those that stood in the page");
        long[] k = keysOf(5, 6);
        Ring r = fourStand(k).putApart(1, k[4], k[5]).turn();
        page("8 too many", r.x, 5, k[0], k[2], k[3], k[4], k[5]);
        counts("8 too many", r.x, 5, 6, 1, 0, 0, 0, 0, 4, 1, 5);
        r = fourStand(k).putApart(2, k[4], k[5]).turn();
        page("10 too many", r.x, 5, k[0], k[2], k[4], k[5]);
        counts("10 too many", r.x, 5, 6, 2, 0, 0, 0, 0, 4, 1, 4);
    }

    private static void droppedFirstOfThoseThatStood() {
        says("else the first of those that stood there");
        long[] k = keysOf(5, 6);
        Ring r = fourStand(k).putApart(6, k[4], k[5]).turn();
        page("18 too many", r.x, 5, k[2], k[4], k[5]);
        counts("18 too many", r.x, 5, 6, 2, 1, 0, 0, 0, 4, 1, 3);
        r = fourStand(k).putApart(10, k[4], k[5]).turn();
        page("26 too many", r.x, 5, k[4], k[5]);
        counts("26 too many", r.x, 5, 6, 2, 2, 0, 0, 0, 4, 1, 2);
        r = new Ring().put(5, k[0], k[1], k[2], k[3]).turn().mark(k[3], k[2], k[1], k[0]).putApart(1, k[4], k[5]).turn();
        page("all have marks", r.x, 5, k[1], k[2], k[3], k[4], k[5]);
        counts("all have marks", r.x, 5, 6, 0, 1, 0, 0, 0, 6, 1, 5);
    }

    private static void droppedOfTheMovedLast() {
        says("else the first of those that were moved: only when none that stood is left");
        long[] k = keysOf(5, 7);
        Ring r = fourStand(k).putApart(12, k[4], k[5], k[6]).turn();
        page("45 moved", r.x, 5, k[5], k[6]);
        counts("45 moved", r.x, 5, 7, 2, 2, 1, 0, 0, 4, 1, 2);
        r = fourStand(k).putApart(12, k[0], k[1], k[2]).turn();
        page("with newer ones of three that stood", r.x, 5, k[1], k[2]);
        counts("with newer ones of three that stood", r.x, 5, 7, 1, 0, 1, 0, 0, 4, 1, 2);
    }

    private static void marksAreCleared() {
        says("then all marks in the page are cleared, and the page is WRITTEN");
        long[] k = keysOf(5, 4);
        Ring r = new Ring().put(1, k[0], k[1]).turn().mark(k[0], k[1]).put(1, k[2], k[3]).mark(k[2], k[3]).turn();
        for (long key : k) {
            due("where", r.x.where(key), 2);
            due("mark", r.x.mark(key), 0);
        }
        due("count(2)", r.x.count(2), 2);
    }

    private static void marksOfTheOthersStay() {
        says("TAKEN OUT: .. its object goes, and the page is WRITTEN: the others keep their places and marks");
        long[] k = keysOf(5, 4);
        Ring r = new Ring().put(3, k).turn().mark(k[0], k[2]).put(3, k[1]).turn();
        counts("k[1] was DROPPED ALONE", r.x, 2, 1, 1, 0, 4, 0, 0, 0, 1, 0, 4, 1, 3);
        page("k[1] was DROPPED ALONE", r.x, 5, k[0], k[2], k[3]);
        due("mark before it", r.x.mark(k[0]), 1);
        due("mark behind it", r.x.mark(k[2]), 1);
        due("mark of one without", r.x.mark(k[3]), 0);
        says("remove(): .. TAKEN OUT of its page, too: the others keep their places and marks");
        r = new Ring().put(3, k).turn().mark(k[0], k[2]);
        due("remove", r.x.remove(k[1]), 1);
        page("k[1] was removed", r.x, 5, k[0], k[2], k[3]);
        due("mark before it", r.x.mark(k[0]), 1);
        due("mark behind it", r.x.mark(k[2]), 1);
        due("mark of one without", r.x.mark(k[3]), 0);
        for (int i : new int[] {0, 2, 3}) due("get", r.x.get(k[i]), 3);
    }

    // ---- Terms: put, get, remove over both

    private static void removeLooksIntoThePage() {
        says("what is alive in the log is dead; and it is TAKEN OUT of its page, too: READ, if that MAY HAVE it");
        long[] k = keysOf(5, 2);
        long like = keyOf(5, 0, 1, 9);
        long unlike = keyOf(5, 0, 9, 9);
        Ring r = new Ring().put(3, k).turn().put(3, like, unlike);
        due("remove from the log, the page MAY HAVE it", r.x.remove(like), 1);
        counts("READ, not written", r.x, 2, 1, 0, 0, 2, 0, 0, 0, 0, 0, 2, 2, 2);
        due("remove from the log, the page may not", r.x.remove(unlike), 1);
        counts("neither", r.x, 2, 1, 0, 0, 2, 0, 0, 0, 0, 0, 2, 1, 2);
        page("as it was", r.x, 5, k);
    }

    private static void hiddenInThePage() {
        says("What a set page has of that key stays, but is not found any more as long as one is alive in the log.");
        long[] k = keysOf(5, 2);
        Ring r = new Ring().put(12, k).turn().mark(k[0]).put(2, k[0]);
        page("the older one stays", r.x, 5, k);
        due("where", r.x.where(k[0]), 1);
        due("mark: the newer one has none", r.x.mark(k[0]), 0);
        due("get", r.x.get(k[0]), 2);
        due("got(0)", r.x.got(0), 200);
        due("got(2)", r.x.got(2), 0);
        due("count(13)", r.x.count(13), 2);
        due("remove", r.x.remove(k[0]), 1);
        due("where: neither is there then", r.x.where(k[0]), 0);
        page("neither is there then", r.x, 5, k[1]);
    }

    private static void markOfTheOneFound() {
        says("what is found gets a mark: not the one behind it, and none if none is found");
        long[] k = keysOf(5, 4);
        Ring r = new Ring().put(5, k).turn().put(5, k[0]).mark(k[0]);
        due("get of none that the page MAY HAVE", r.x.get(keyOf(5, 1, 2, 9)), 0);
        for (int i = 1; i < 4; i++) due("mark of another", r.x.mark(k[i]), 0);
        due("count(2): a mark writes nothing", r.x.count(2), 1);
        due("count(3)", r.x.count(3), 0);
        due("mark", r.x.mark(k[0]), 1);
    }

    private static void removeOfNothing() {
        says("1, if something was alive in the log, or stood in the page, under a key; else 0.");
        long[] k = keysOf(5, 3);
        EmberCache x = new EmberCache();
        for (long key : EDGE_KEYS) due("remove from an empty one", x.remove(key), 0);
        counts("of an empty one", x, 0, new int[18]);
        Ring r = new Ring().put(3, k[0], k[1]).turn().put(3, k[1], k[2]);
        due("remove from the page alone", r.x.remove(k[0]), 1);
        due("remove from the log and the page", r.x.remove(k[1]), 1);
        due("remove from the log alone", r.x.remove(k[2]), 1);
        counts("of three removes", r.x, 2, 1, 0, 2, 2, 0, 0, 0, 0, 0, 3, 1, 0);
        for (long key : k) due("remove once more", r.x.remove(key), 0);
        for (long key : k) due("where", r.x.where(key), 0);
        counts("of six removes", r.x, 2, 1, 0, 2, 2, 0, 0, 0, 0, 0, 3, 1, 0);
    }

    // ---- Promises 1 to 5: wrong and odd arguments

    private static void emptyAndOpen() {
        says("Empty, open; all counts are 0.");
        isNew(new EmberCache());
    }

    private static void isNew(EmberCache x) {
        counts("of a new object", x, 0, new int[18]);
        aliveIn("of a new object", x, new int[9]);
        for (int i = -1; i <= 12; i++) due("got(" + i + ")", x.got(i), 0);
        for (long key : EDGE_KEYS) {
            due("where", x.where(key), 0);
            due("mark", x.mark(key), 0);
            due("get", x.get(key), 0);
        }
        for (int set = 0; set < 64; set++) {
            due("stands", x.stands(set), 0);
            due("key", x.key(set, 0), 0);
            due("filter", x.filter(set), 0);
        }
        due("check", x.check(), 0);
        due("count(11) behind it all", x.count(11), 0);
        due("open", x.open(), BAD);
    }

    private static void eachNewObject() {
        says("Empty, open; all counts are 0: each new object, whatever another went through");
        long[] k = keysOf(5, 7);
        EmberCache busy = busy(k).x;
        isNew(new EmberCache());
        long[] before = look(busy, 5, k);
        EmberCache other = busy(k).x;
        due("crash of another", other.crash(), 2);
        isNew(new EmberCache());
        same("behind what another went through", before, look(busy, 5, k));
        due("close", busy.close(), 1);
        isNew(new EmberCache());
        due("open of another", other.open(), 0);
        due("where, CLOSED", busy.where(k[0]), SHUT);
        due("open", busy.open(), 2);
        same("behind what others went through", before, look(busy, 5, k));
    }

    private static void objectsBesideEachOther() {
        says("A new object: one beside it changes nothing in it");
        long[] want = runWith(i -> 0, new EmberCache());
        EmberCache beside = new EmberCache();
        long[] k = keysOf(5, 7);
        LongUnaryOperator calls = i -> beside.put(k[(int) i % 7], 12, 1, 1) + beside.get(k[0]) + beside.remove(FILLER);
        same("with another's calls in between", want, runWith(calls, new EmberCache()));
        EmberCache shut = new EmberCache();
        same("with another's close and crash in between", want,
            runWith(i -> shut.close() + shut.open() + shut.crash(), new EmberCache()));
    }

    private static void fiveHundredAndTwelveCalls() {
        says("An object is used for at most 512 calls after it has been made: the last one is answered, too");
        int[] want = {63, 255, 0, 0, 0, 0, 0, 0, 0, 0, 0, 0, 1, 0, 15, 7, 3, 0};
        for (int what = 0; what < 18; what++) {
            EmberCache x = new EmberCache();
            for (int i = 0; i < 511; i++) x.put(FILLER, 12, i, 0);
            due("count(" + what + ") as the last call", x.count(what), want[what]);
        }
        long[] k = keysOf(5, 2);
        EmberCache x = new EmberCache();
        for (int i = 0; i < 510; i++) x.put(i % 64 < 2 ? k[i % 64] : FILLER, 12, i, 1);
        due("get as call 511", x.get(k[1]), 12);
        due("got as the last call: what was put seven rounds later", x.got(2), 7 * 64 + 1 + 2);
    }

    private static void wordsOutOfBounds() {
        says("BAD: n is not 1 .. 12. SHUT comes first.");
        EmberCache x = new EmberCache();
        int[] none = {0, 13, -1, -12, 14, 28, 257, 65537, LOW, LOW + 1, LOW + 12, HIGH};
        due("put of 1 word", x.put(6, 1, 70, 0), 1);
        for (int n : none) due("put of " + n, x.put(6, n, 1, 1), BAD);
        due("get: the older one is alive", x.get(6), 1);
        counts("behind bad ones", x, 0, 0, 0, 0, 0, 0, 0, 0, 0, 0, 0, 0, 0, 1, 0, 4, 0, 0, 0);
        due("put of 12 words", x.put(6, 12, 70, 0), 1);
        due("get", x.get(6), 12);
        x.close();
        for (int n : none) due("put of " + n + ", CLOSED", x.put(6, n, 1, 1), SHUT);
        due("put of 5, CLOSED", x.put(6, 5, 1, 1), SHUT);
        due("count(14)", x.count(14), 19);
    }

    private static void wordsWrapAround() {
        says("the i-th (from 0 on) being first + i step (as ints)");
        int[] ends = {0, 1, -1, LOW, HIGH, 1 << 30, -7};
        for (int first : ends) {
            for (int step : ends) {
                EmberCache x = new EmberCache();
                x.put(9, 12, first, step);
                x.get(9);
                int word = first;
                for (int i = 0; i < 12; i++) {
                    due("got(" + i + ") of " + first + ", " + step, x.got(i), word);
                    word += step;
                }
            }
        }
    }

    private static void getFindsNone() {
        says("How many WORDS the value has that is found; 0: none is.");
        long[] k = keysOf(5, 3);
        Ring r = new Ring();
        due("get from an empty one", r.x.get(k[0]), 0);
        for (int n = 1; n <= 12; n++) {
            r.put(n, k[0]);
            due("get of " + n + " words", r.x.get(k[0]), n);
        }
        due("get of another", r.x.get(k[1]), 0);
        r.x.remove(k[0]);
        due("get of one that was removed", r.x.get(k[0]), 0);
        r = new Ring().put(7, k[0]).put(1, k[1]).turn();
        due("get from a page", r.x.get(k[0]), 7);
        due("get from a page", r.x.get(k[1]), 1);
        due("get of one that the page MAY HAVE", r.x.get(keyOf(5, 0, 1, 9)), 0);
        due("get of one that it may not", r.x.get(k[2]), 0);
        r.put(2, k[2]).turn();
        due("count(9)", r.x.count(9), 1);
        due("get of one that was DROPPED ALONE", r.x.get(k[2]), 0);
    }

    private static void gotOutOfBounds() {
        says("WORD i of the value that the latest get() found which found one; 0: there is none such.");
        Ring r = new Ring().put(12, 1).put(1, 2);
        due("got before a get", r.x.got(0), 0);
        due("get of none", r.x.get(3), 0);
        due("got, when none was found", r.x.got(0), 0);
        due("get", r.x.get(1), 12);
        due("got(11)", r.x.got(11), 1211);
        for (int i : new int[] {-1, 12, 13, LOW, HIGH}) due("got(" + i + ")", r.x.got(i), 0);
        due("get of none", r.x.get(3), 0);
        due("got(11), of the one before", r.x.got(11), 1211);
        due("get of a shorter one", r.x.get(2), 1);
        due("got(0)", r.x.got(0), 100);
        due("got(1), behind its end", r.x.got(1), 0);
    }

    private static void gotOutlivesTheObject() {
        says("the value that the latest get() found: it stays when the object goes");
        long[] k = keysOf(5, 2);
        Ring r = new Ring().put(3, k[0]).mark(k[0]);
        r.put(4, k[0]);
        due("got behind a put", r.x.got(2), 302);
        r.x.remove(k[0]);
        due("got behind a remove", r.x.got(2), 302);
        due("got(3)", r.x.got(3), 0);
        r.put(5, k).turn().mark(k[1]).turn();
        due("got of one that stands", r.x.got(4), 504);
        r.put(12, k[0]).putApart(12, FILLER, keyOf(5, 9, 9, 9)).turn();
        due("where of it", r.x.where(k[1]), 0);
        due("got of one that was dropped", r.x.got(4), 504);
    }

    private static void gotIsNeverShut() {
        says("SHUT does not come here.");
        Ring r = new Ring();
        r.x.close();
        due("got, CLOSED, when none was found", r.x.got(0), 0);
        r.x.open();
        r.put(2, 4).mark(4);
        r.x.close();
        due("get, SHUT", r.x.get(4), SHUT);
        due("got(1), CLOSED", r.x.got(1), 201);
        due("got(2), CLOSED", r.x.got(2), 0);
        due("got(-1), CLOSED", r.x.got(-1), 0);
        r.x.crash();
        due("got(1), behind a crash", r.x.got(1), 201);
        r.x.open();
        due("got(1), open again", r.x.got(1), 201);
        due("get of none", r.x.get(4), 0);
        due("got(1), behind a get of none", r.x.got(1), 201);
    }

    // ---- Promises 9 to 15: wrong and odd arguments

    private static void whereAndMark() {
        says("0 nowhere, 1 in the log, 2 in a set page; nothing changes, and nothing is READ");
        long[] k = keysOf(5, 3);
        Ring r = new Ring().put(3, k[0], k[1]).turn().put(3, k[2]);
        long[] before = look(r.x, 5, k);
        for (int i = 0; i < 3; i++) {
            due("where in a page", r.x.where(k[0]), 2);
            due("where in the log", r.x.where(k[2]), 1);
            due("where of one that the page MAY HAVE", r.x.where(keyOf(5, 0, 1, 9)), 0);
            due("where of one of an empty page", r.x.where(keyOf(6, 0, 1, 9)), 0);
        }
        same("behind where", before, look(r.x, 5, k));
        says("Whether what get() would find has a mark: 1, 0; 0, too, if there is none.");
        for (int i = 0; i < 3; i++) {
            due("mark in a page", r.x.mark(k[0]), 0);
            due("mark of one that the page MAY HAVE", r.x.mark(keyOf(5, 0, 1, 9)), 0);
        }
        same("behind mark", before, look(r.x, 5, k));
        r.mark(k[0], k[2]);
        due("mark in a page", r.x.mark(k[0]), 1);
        due("mark in the log", r.x.mark(k[2]), 1);
        due("mark of another in the page", r.x.mark(k[1]), 0);
    }

    private static void noSuchSet() {
        long[] k = keysOf(63, 2);
        long[] low = keysOf(0, 2);
        Ring r = new Ring().put(3, low).put(3, k);
        for (int i = 0; i < 63; i++) r.x.put(keyOf(5, 9, 9, 9), 12, 0, 0);
        long[] before = look(r.x, 63, k);
        for (int set : new int[] {-1, 64, -64, 127, 128, LOW, LOW + 63, HIGH}) {
            says("How many objects stand in the page of a SET. .. BAD: there is no such SET.");
            due("stands(" + set + ")", r.x.stands(set), BAD);
            says("The key of the i-th object .. 0: there is none such");
            due("key(" + set + ", 0)", r.x.key(set, 0), 0);
            says("The FILTER of a SET's page .. 0: there is no such SET");
            due("filter(" + set + ")", r.x.filter(set), 0);
        }
        says("stands, key, filter: the first and the last SET");
        page("of the last set", r.x, 63, k);
        page("of the first set", r.x, 0, low);
        due("filter(63)", r.x.filter(63), 0b11);
        due("filter(0)", r.x.filter(0), 0b11);
        same("behind bad ones", before, look(r.x, 63, k));
    }

    private static void noSuchObject() {
        says("The key of the i-th object (from 0 on) in the page of a SET; 0: there is none such");
        long[] k = keysOf(5, 8);
        Ring r = new Ring().put(1, k).turn();
        for (int i = 0; i < 8; i++) due("key " + i, r.x.key(5, i), k[i]);
        for (int i : new int[] {-1, 8, 9, 64, LOW, HIGH}) due("key(5, " + i + ")", r.x.key(5, i), 0);
        r.x.remove(k[7]);
        due("key of the last, which was removed", r.x.key(5, 7), 0);
        r.x.remove(k[0]);
        due("key(5, 0) when the first was removed", r.x.key(5, 0), k[1]);
        due("key(5, 5)", r.x.key(5, 5), k[6]);
        due("key(5, 6)", r.x.key(5, 6), 0);
        due("key(6, 0)", r.x.key(6, 0), 0);
    }

    private static void noSuchSegment() {
        says("in a SEGMENT (0 .. 7), or in the open page (8). SHUT; BAD: another one.");
        Ring r = new Ring();
        for (int set = 0; set < 63; set++) r.put(12, keyOf(set, 0, 0, 1));
        aliveIn("of 63", r.x, 8, 8, 8, 8, 8, 8, 8, 6, 1);
        for (int s : new int[] {-1, 9, -8, 16, 32, LOW, HIGH}) due("alive(" + s + ")", r.x.alive(s), BAD);
        r.x.remove(keyOf(0, 0, 0, 1));
        r.x.remove(keyOf(61, 0, 0, 1));
        r.x.remove(keyOf(62, 0, 0, 1));
        aliveIn("of 60", r.x, 7, 8, 8, 8, 8, 8, 8, 5, 0);
    }

    private static void noSuchCount() {
        says("BAD: another what.");
        EmberCache x = new EmberCache();
        int[] none = {-1, 18, 19, -18, 256, LOW, HIGH};
        for (int what : none) due("count(" + what + ")", x.count(what), BAD);
        due("count(0)", x.count(0), 0);
        due("count(17)", x.count(17), 0);
        x.close();
        for (int what : none) due("count(" + what + "), CLOSED", x.count(what), BAD);
        due("count(17), CLOSED", x.count(17), 1);
        x.crash();
        for (int what : none) due("count(" + what + "), behind a crash", x.count(what), BAD);
        due("count(17), behind a crash", x.count(17), 1);
        x.open();
        due("count(17), open again", x.count(17), 0);
    }

    // ---- CLOSED, and promises 15 to 19

    /** In all twelve counts is something; the page of set 5 is as k says, and the log holds two. */
    private static Ring busy(long[] k) {
        Ring r = new Ring().put(12, k[0], k[1]).turn().mark(k[0]);
        r.put(12, k[2], k[3], k[4]).turn();
        due("remove", r.x.remove(k[3]), 1);
        r.put(1, k[4]).put(1, keyOf(9, 0, 0, 1)).mark(keyOf(9, 0, 0, 1)).turn();
        // One was put anew, so from here on the ring's own count is not asked.
        return r;
    }

    private static void allCounts() {
        says("How many: 0 segments were FILLED, 1 pages of the log written; 2 ..");
        long[] k = keysOf(5, 7);
        EmberCache x = busy(k).x;
        int[] counted = {24, 96, 2, 1, 1, 5, 1, 1, 1, 1, 1, 5};
        counts("of a busy one", x, 0, counted);
        counts("now", x, 12, 2, 0, 19, 0, 0, 0);
        says("Behind close() and open() all is as it was");
        x.close();
        counts("CLOSED", x, 0, counted);
        counts("CLOSED", x, 12, 2, 0, 19, 0, 0, 1);
        due("open", x.open(), 2);
        counts("open again", x, 0, counted);
        counts("open again", x, 12, 2, 0, 19, 0, 0, 0);
        says("what count() tells of now (12 to 16) is so from crash() on; what was counted goes on");
        for (int i = 0; i < 9; i++) x.put(FILLER, 12, 0, 0);
        counts("before the crash", x, 12, 2, 0, 15, 1, 1, 0);
        counted[0] = 25;
        counted[1] = 101;
        due("crash", x.crash(), 2);
        counts("behind the crash", x, 0, counted);
        counts("behind the crash", x, 12, 0, 0, 0, 0, 0, 1);
        due("open", x.open(), 0);
        counts("open again", x, 0, counted);
        counts("open again", x, 12, 0, 0, 0, 0, 0, 0);
        for (int i = 0; i < 9; i++) x.put(FILLER, 12, 0, 0);
        counts("goes on", x, 0, 26, 105, 2, 1, 1, 5, 1, 1, 1, 1, 1, 5, 1, 0, 15, 1, 0, 0);
    }

    /** Every call that is refused while CLOSED. */
    private static void refusedCalls(EmberCache x, long key) {
        for (long k : new long[] {key, 0, Long.MIN_VALUE}) {
            due("put", x.put(k, 1, 1, 1), SHUT);
            due("put of none", x.put(k, 0, 1, 1), SHUT);
            due("get", x.get(k), SHUT);
            due("remove", x.remove(k), SHUT);
            due("where", x.where(k), SHUT);
            due("mark", x.mark(k), SHUT);
        }
        for (int i : new int[] {0, 5, -1, 64, LOW, HIGH}) {
            due("stands(" + i + ")", x.stands(i), SHUT);
            due("alive(" + i + ")", x.alive(i), SHUT);
            due("key(" + i + ", 0)", x.key(i, 0), 0);
            due("filter(" + i + ")", x.filter(i), 0);
        }
        due("close", x.close(), SHUT);
        due("check", x.check(), SHUT);
    }

    private static void closedByClose() {
        says("What all calls but open(), crash(), count() and mix(), unmix(), setOf() answer then is SHUT (-2), and nothing changes.");
        long[] k = keysOf(5, 3);
        EmberCache x = new Ring().put(3, k[0], k[1]).turn().put(3, k[2], k[0]).mark(k[1], k[2]).x;
        x.remove(k[0]);
        long[] before = look(x, 5, k);
        due("close", x.close(), 1);
        refusedCalls(x, k[1]);
        due("mix", x.mix(1), mixOf(1));
        due("unmix", x.unmix(mixOf(-7)), -7);
        due("setOf", x.setOf(k[0]), 5);
        for (int what = 0; what < 17; what++) due("count(" + what + ")", x.count(what), before[what]);
        due("count(17)", x.count(17), 1);
        due("got", x.got(1), 301);
        due("open", x.open(), 2);
        same("behind close and open", before, look(x, 5, k));
    }

    private static void closedByCrash() {
        says("CLOSED: behind close() or crash(), till open().");
        long[] k = keysOf(5, 3);
        EmberCache x = new Ring().put(3, k[0], k[1]).turn().put(3, k[2], k[0]).mark(k[1], k[2]).x;
        int[] counted = {8, 32, 1, 0, 0, 2, 0, 0, 0, 0, 0, 2};
        due("crash", x.crash(), 3);
        refusedCalls(x, k[1]);
        due("mix", x.mix(1), mixOf(1));
        due("unmix", x.unmix(mixOf(-7)), -7);
        due("setOf", x.setOf(k[0]), 5);
        counts("refused", x, 0, counted);
        counts("refused", x, 12, 0, 0, 0, 0, 0, 1);
        due("open", x.open(), 0);
        counts("open again", x, 0, counted);
        counts("open again", x, 12, 0, 0, 0, 0, 0, 0);
        page("open again", x, 5);
        due("filter", x.filter(5), 0);
        aliveIn("open again", x, new int[9]);
        for (long key : k) due("get", x.get(key), 0);
        due("count(11): nothing is READ in empty pages", x.count(11), 2);
        due("check", x.check(), 0);
    }

    /** Runs the same calls, with something in between that ought to change nothing. */
    private static long[] runWith(LongUnaryOperator between, EmberCache x) {
        long[] k = keysOf(5, 7);
        for (int i = 0; i < 70; i++) {
            if (i % 14 == 0) x.put(k[i / 14], 4, i, 1);
            if (i % 28 == 0) x.get(k[i / 14]);
            x.put(FILLER, 12, i, i);
            if (i % 3 == 0) between.applyAsLong(i);
        }
        x.get(k[2]);
        for (int i = 0; i < 30; i++) {
            if (i % 14 == 0) x.put(k[i / 14 + 4], 9, i, 1);
            x.put(FILLER, 12, i, i);
            if (i % 3 == 0) between.applyAsLong(i);
        }
        return look(x, 5, k);
    }

    private static void asItWas() {
        says("Behind close() and open() all is as it was: the ring goes on as if nothing had been");
        EmberCache plain = new EmberCache();
        long[] want = runWith(i -> 0, plain);
        due("the run moves something", plain.count(5) > 0 ? 1 : 0, 1);
        EmberCache shut = new EmberCache();
        same("with close and open in between", want, runWith(i -> shut.close() + shut.put(1, 1, 1, 1) + shut.open(), shut));
        says("a call that answers BAD changes nothing and counts nothing");
        EmberCache bad = new EmberCache();
        same("with bad ones in between", want, runWith(i -> bad.put(FILLER, 13, 1, 1) + bad.open() + bad.alive(9), bad));
        EmberCache none = new EmberCache();
        same("with numbers out of bounds in between", want, runWith(i -> none.stands(64) + none.count(18) + none.key(5, 8), none));
    }

    private static void closeTwice() {
        says("The cache is CLOSED: 1. SHUT.");
        EmberCache x = new EmberCache();
        due("close of an empty one", x.close(), 1);
        due("close once more", x.close(), SHUT);
        due("close a third time", x.close(), SHUT);
        due("open", x.open(), 0);
        due("close again", x.close(), 1);
        x.crash();
        due("close behind a crash", x.close(), SHUT);
        due("count(17)", x.count(17), 1);
    }

    private static void crashOpenOrClosed() {
        says("It goes, .. open or CLOSED: how many objects were alive in the log (0, if it was CLOSED by a crash() already).");
        EmberCache x = new EmberCache();
        due("crash of an empty one", x.crash(), 0);
        due("crash once more", x.crash(), 0);
        due("open", x.open(), 0);
        for (int i = 0; i < 20; i++) x.put(i, 12, 0, 0);
        x.put(3, 12, 0, 0);
        x.remove(4);
        due("crash of an open one: the living are counted", x.crash(), 19);
        due("crash once more", x.crash(), 0);
        due("open", x.open(), 0);
        x.put(1, 12, 0, 0);
        x.put(2, 12, 0, 0);
        x.close();
        due("crash of a CLOSED one", x.crash(), 2);
        due("crash once more", x.crash(), 0);
        due("where, SHUT", x.where(1), SHUT);
        due("open", x.open(), 0);
        due("where", x.where(1), 0);
        says("how many objects were alive in the log: those in set pages are not counted");
        Ring r = new Ring().put(3, keysOf(5, 2)).turn();
        due("crash", r.x.crash(), 1);
    }

    private static void crashEmptiesAll() {
        says("behind crash() .. the log, the open page and all set pages are empty, the HEAD is 0");
        long[] k = keysOf(5, 2);
        Ring r = new Ring().put(3, k).turn().put(3, k).spinTo(50);
        counts("before", r.x, 12, 3, 2, 15, 4, 2, 0);
        r.x.crash();
        counts("CLOSED", r.x, 12, 0, 0, 0, 0, 0, 1);
        r.x.open();
        counts("open", r.x, 12, 0, 0, 0, 0, 0, 0);
        r.x.put(k[0], 12, 0, 0);
        counts("one put", r.x, 12, 1, 0, 15, 0, 0, 0);
        aliveIn("one put", r.x, 0, 0, 0, 0, 0, 0, 0, 0, 1);
        due("mark", r.x.mark(k[0]), 0);
        due("where of the other", r.x.where(k[1]), 0);
        for (int i = 0; i < 64; i++) r.x.put(FILLER, 12, 0, 0);
        counts("a round later it is DROPPED ALONE, and no page is there", r.x, 2, 1, 0, 0, 2, 0, 0, 0, 1, 0, 1, 1, 0);
    }

    private static void crashEmptiesEachPage() {
        says("all set pages are empty: from the first to the last");
        Ring r = new Ring();
        for (int set = 0; set < 64; set++) r.put(1, keyOf(set, 1, 1, 1), keyOf(set, 2, 2, 2));
        r.spinTo(44);
        due("count(13)", r.x.count(13), 128);
        due("count(2)", r.x.count(2), 64);
        r.x.crash();
        due("count(13), CLOSED", r.x.count(13), 0);
        r.x.open();
        for (int set = 0; set < 64; set++) {
            due("stands(" + set + ")", r.x.stands(set), 0);
            due("filter(" + set + ")", r.x.filter(set), 0);
            due("get", r.x.get(keyOf(set, 2, 2, 2)), 0);
        }
        due("count(11): nothing is READ in empty pages", r.x.count(11), 64);
        due("check", r.x.check(), 0);
    }

    private static void openWhenOpen() {
        says("CLOSED no more: how many objects are alive in the log. BAD: it was not CLOSED.");
        long[] k = keysOf(5, 3);
        EmberCache x = new Ring().put(3, k[0], k[1]).turn().put(3, k).x;
        long[] before = look(x, 5, k);
        due("open of an open one", x.open(), BAD);
        due("open once more", x.open(), BAD);
        same("behind a bad open", before, look(x, 5, k));
        x.close();
        due("open: those of the log alone, and not the dead", x.open(), 4);
        due("open of an open one", x.open(), BAD);
        x.remove(k[0]);
        x.close();
        due("open", x.open(), 3);
        x.crash();
        due("open behind a crash", x.open(), 0);
        due("open of an open one", x.open(), BAD);
    }

    private static void checkAtTheEdges() {
        says("0, while the class is right. .. SHUT.");
        long[] k = keysOf(5, 9);
        Ring r = new Ring();
        due("check of an empty one", r.x.check(), 0);
        for (int i = 0; i < 8; i++) r.put(1, k[i]);
        due("check, the open page being just full", r.x.check(), 0);
        r.put(1, k[8]);
        due("check, a page of the log being just full", r.x.check(), 0);
        r.turn();
        due("check, a set page being just full", r.x.check(), 0);
        r.put(12, k[3]);
        due("check, a key being in the log and in a page", r.x.check(), 0);
        r.x.close();
        due("check, SHUT", r.x.check(), SHUT);
        r.x.crash();
        due("check, SHUT", r.x.check(), SHUT);
        r.x.open();
        due("check behind a crash", r.x.check(), 0);
    }

    private static void termsOfKeysAndLog() {
        mixOfEdges();
        unmixOfEdges();
        setsOfEdges();
        keysAreLongs();
        keysThatShareAHalf();
        keyZeroStands();
        placesOfEachLength();
        openPageJustFull();
        openPageOneTooMuch();
        deadOnesTakePlaces();
        segmentFilled();
        zeroBehindSeven();
        segmentWithoutPages();
        noPagesBehindCrash();
        appendedWithoutMark();
        deadBeforeItIsAppended();
        notYetAppended();
        deadOnesAreNotGoneThrough();
        goneThroughInOrder();
        goneThroughWhileAlive();
        twoAreMoved();
        mateInTheNewestPage();
        orderAcrossTheRing();
        onlyOneWithMark();
        onlyOneWithoutMark();
        droppedAloneWithoutPage();
        putAnewFillsAllPages();
        putAnewLeavesRoom();
        putAnewWithGaps();
        writtenAgainAndAgain();
        putAnewIsTheNewest();
    }

    private static void termsOfSetPages() {
        filterBitsAtTheEnds();
        mayHaveNeedsBothBits();
        whatIsNotRead();
        movingReadsOnce();
        oldOnesGo();
        leftOnesStayBefore();
        setPageJustFull();
        setPageOneTooMuch();
        nineMoved();
        asManyMovedAsTheLogHolds();
        droppedFirstWithoutMark();
        droppedFirstOfThoseThatStood();
        droppedOfTheMovedLast();
        marksAreCleared();
        marksOfTheOthersStay();
        hiddenInThePage();
        markOfTheOneFound();
        removeOfNothing();
        removeLooksIntoThePage();
    }

    private static void promises() {
        emptyAndOpen();
        eachNewObject();
        objectsBesideEachOther();
        fiveHundredAndTwelveCalls();
        wordsOutOfBounds();
        wordsWrapAround();
        getFindsNone();
        gotOutOfBounds();
        gotOutlivesTheObject();
        gotIsNeverShut();
        whereAndMark();
        noSuchSet();
        noSuchObject();
        noSuchSegment();
        noSuchCount();
        allCounts();
        closedByClose();
        closedByCrash();
        asItWas();
        closeTwice();
        crashOpenOrClosed();
        crashEmptiesAll();
        crashEmptiesEachPage();
        openWhenOpen();
        checkAtTheEdges();
    }

    public static void main(String[] args) {
        termsOfKeysAndLog();
        termsOfSetPages();
        promises();
        System.out.println(wrong == 0 ? "all answers are as due" : wrong + " answers are not as due");
        if (wrong != 0) System.exit(1);
    }
}
