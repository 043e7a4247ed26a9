import java.lang.management.ManagementFactory;

/**
 * All calls of one run share a room that is never tidied up, so a call may make little: a new
 * object its rows, a put one item, every other call nothing.
 */
public final class EmberCacheRoom {
    private static final int CALLS = 512;
    private static final long BYTES_OF_A_NEW_OBJECT = 24 * 1024;
    private static final long BYTES_OF_A_PUT = 64;
    private static final com.sun.management.ThreadMXBean THREADS =
        (com.sun.management.ThreadMXBean) ManagementFactory.getThreadMXBean();

    private static int wrong = 0;
    // In the first run classes are loaded, which is not the cache's doing.
    private static boolean warm;
    private static EmberCache kept;
    private static long sum;

    private static long made() {
        return THREADS.getCurrentThreadAllocatedBytes();
    }

    private static void atMost(String what, long bytes, long bound) {
        if (warm && bytes > bound) {
            wrong++;
            System.out.println(what + " made " + bytes + " bytes, at most " + bound + " are due");
        }
    }

    private static long newObject() {
        long before = made();
        kept = new EmberCache();
        return made() - before;
    }

    private static long puts(int sets, boolean marked) {
        kept = new EmberCache();
        long before = made();
        for (int i = 0; i < CALLS / 2; i++) {
            long key = kept.unmix((long) i / sets << 6 | i % sets);
            sum += kept.put(key, 1 + i % 12, i, i);
            if (marked) sum += kept.get(key);
        }
        return made() - before;
    }

    private static long lookingIn(int calls) {
        long before = made();
        for (int i = 0; i < calls; i++) {
            long key = kept.unmix(i);
            sum += kept.get(key) + kept.got(i) + kept.where(key) + kept.mark(key) + kept.setOf(kept.mix(key));
            sum += kept.stands(i) + kept.key(i, 0) + kept.filter(i) + kept.alive(i) + kept.count(i) + kept.check();
        }
        return made() - before;
    }

    private static long removing(int calls) {
        long before = made();
        for (int i = 0; i < calls; i++) sum += kept.remove(kept.unmix(i));
        return made() - before;
    }

    private static long shutting(int calls) {
        long before = made();
        for (int i = 0; i < calls; i++) sum += kept.close() + kept.open() + kept.crash() + kept.open();
        return made() - before;
    }

    private static void wholeRun() {
        atMost("a new object", newObject(), BYTES_OF_A_NEW_OBJECT);
        for (int sets : new int[] {1, 2, 32, 64}) {
            atMost("puts in " + sets + " sets", puts(sets, false), CALLS / 2 * BYTES_OF_A_PUT);
            atMost("puts and gets in " + sets + " sets", puts(sets, true), CALLS / 2 * BYTES_OF_A_PUT);
            atMost("looking in", lookingIn(CALLS), 0);
            atMost("removing", removing(CALLS), 0);
            atMost("closing, opening and crashing", shutting(CALLS), 0);
        }
    }

    public static void main(String[] args) {
        if (!THREADS.isThreadAllocatedMemorySupported()) {
            System.out.println("this machine does not tell what a thread makes");
            return;
        }
        wholeRun();
        warm = true;
        wholeRun();
        System.out.println(wrong == 0 ? "no call makes too much" : wrong + " calls make too much");
        if (wrong != 0) System.exit(1);
    }
}
