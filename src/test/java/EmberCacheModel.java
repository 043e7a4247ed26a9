import java.util.ArrayList;
import java.util.List;
import java.util.Random;

/**
 * Compares EmberCache with a second, slow telling of the document: the log is a list of
 * lists that is walked by sequence numbers, and appending calls itself as the text does.
 */
public final class EmberCacheModel {
    private static final class Obj {
        long key;
        int n, first, step, seq;
        boolean mark, alive;
    }

    private static final class Model {
        final List<List<List<Obj>>> segments = new ArrayList<>();
        final List<List<Obj>> sets = new ArrayList<>();
        List<Obj> open = new ArrayList<>();
        List<Obj> taken = new ArrayList<>();
        final int[] c = new int[12];
        int head, seq;
        boolean closed;
        Obj latest;

        Model() {
            empty();
        }

        void empty() {
            segments.clear();
            sets.clear();
            for (int i = 0; i < 8; i++) segments.add(new ArrayList<>());
            for (int i = 0; i < 64; i++) sets.add(new ArrayList<>());
            open = new ArrayList<>();
            head = 0;
        }

        static long mix(long x) {
            for (int i = 0; i < 2; i++) {
                x ^= x >>> 32;
                x *= 0xD6E8FEB86659FD93L;
            }
            return x ^ (x >>> 32);
        }

        static int set(long key) {
            return (int) Long.remainderUnsigned(mix(key), 64);
        }

        static int places(List<Obj> page) {
            return page.stream().mapToInt(o -> 3 + o.n).sum();
        }

        static long filter(List<Obj> page) {
            long f = 0;
            for (Obj o : page) {
                f |= 1L << (mix(o.key) >>> 6);
                f |= 1L << (mix(o.key) >>> 12);
            }
            return f;
        }

        boolean mayHave(long key) {
            long f = filter(sets.get(set(key)));
            return (f >>> (mix(key) >>> 6) & 1) == 1 && (f >>> (mix(key) >>> 12) & 1) == 1;
        }

        List<Obj> alive() {
            List<Obj> all = new ArrayList<>();
            for (List<List<Obj>> s : segments) for (List<Obj> p : s) all.addAll(p);
            all.addAll(open);
            for (Obj o : taken) if (!all.contains(o)) all.add(o);
            all.removeIf(o -> !o.alive);
            all.sort((a, b) -> Integer.compare(a.seq, b.seq));
            return all;
        }

        Obj inLog(long key) {
            for (Obj o : alive()) if (o.key == key) return o;
            return null;
        }

        Obj inPage(long key) {
            for (Obj o : sets.get(set(key))) if (o.key == key) return o;
            return null;
        }

        void append(Obj o) {
            while (places(open) + 3 + o.n > 32) {
                segments.get(head).add(open);
                open = new ArrayList<>();
                c[1]++;
                if (segments.get(head).size() == 4) {
                    c[0]++;
                    head = head == 7 ? 0 : head + 1;
                    if (!segments.get(head).isEmpty()) emptyOut(segments.get(head));
                }
            }
            o.alive = true;
            o.mark = false;
            o.seq = seq++;
            open.add(o);
        }

        void emptyOut(List<List<Obj>> segment) {
            taken = new ArrayList<>();
            for (List<Obj> p : segment) taken.addAll(p);
            segment.clear();
            for (Obj o : new ArrayList<>(taken)) {
                if (!o.alive) continue;
                List<Obj> mates = alive();
                mates.removeIf(m -> set(m.key) != set(o.key));
                if (mates.size() > 1) {
                    move(mates);
                } else if (o.mark) {
                    c[10]++;
                    taken.remove(o);
                    append(o);
                } else {
                    c[9]++;
                    o.alive = false;
                    takeOut(o.key, 3);
                }
            }
            taken = new ArrayList<>();
        }

        void move(List<Obj> mates) {
            List<Obj> page = sets.get(set(mates.get(0).key));
            c[11]++;
            List<Obj> moved = new ArrayList<>();
            for (Obj m : mates) {
                m.alive = false;
                c[5]++;
                page.removeIf(o -> o.key == m.key);
                Obj copy = new Obj();
                copy.key = m.key;
                copy.n = m.n;
                copy.first = m.first;
                copy.step = m.step;
                moved.add(copy);
            }
            while (places(page) + places(moved) > 32) {
                Obj victim = null;
                for (Obj o : page) if (victim == null && !o.mark) victim = o;
                if (victim != null) {
                    c[6]++;
                    page.remove(victim);
                } else if (!page.isEmpty()) {
                    c[7]++;
                    page.remove(0);
                } else {
                    c[8]++;
                    moved.remove(0);
                }
            }
            page.addAll(moved);
            for (Obj o : page) o.mark = false;
            c[2]++;
        }

        boolean takeOut(long key, int what) {
            if (!mayHave(key)) return false;
            c[11]++;
            boolean gone = sets.get(set(key)).removeIf(o -> o.key == key);
            if (gone) c[what]++;
            return gone;
        }

        int put(long key, int n, int first, int step) {
            if (closed) return -2;
            if (n < 1 || n > 12) return -1;
            Obj old = inLog(key);
            if (old != null) old.alive = false;
            Obj o = new Obj();
            o.key = key;
            o.n = n;
            o.first = first;
            o.step = step;
            append(o);
            return 1;
        }

        int get(long key) {
            if (closed) return -2;
            Obj o = inLog(key);
            if (o == null && mayHave(key)) {
                c[11]++;
                o = inPage(key);
            }
            if (o == null) return 0;
            o.mark = true;
            latest = o;
            return o.n;
        }

        int got(int i) {
            return latest == null || i < 0 || i >= latest.n ? 0 : latest.first + i * latest.step;
        }

        int remove(long key) {
            if (closed) return -2;
            Obj o = inLog(key);
            if (o != null) o.alive = false;
            boolean page = takeOut(key, 4);
            return o != null || page ? 1 : 0;
        }

        int where(long key) {
            if (closed) return -2;
            return inLog(key) != null ? 1 : inPage(key) != null ? 2 : 0;
        }

        int mark(long key) {
            if (closed) return -2;
            Obj o = inLog(key) != null ? inLog(key) : inPage(key);
            return o != null && o.mark ? 1 : 0;
        }

        int stands(int set) {
            return closed ? -2 : set < 0 || set > 63 ? -1 : sets.get(set).size();
        }

        long key(int set, int i) {
            if (closed || set < 0 || set > 63 || i < 0 || i >= sets.get(set).size()) return 0;
            return sets.get(set).get(i).key;
        }

        long filter(int set) {
            return closed || set < 0 || set > 63 ? 0 : filter(sets.get(set));
        }

        int alive(int segment) {
            if (closed) return -2;
            if (segment < 0 || segment > 8) return -1;
            List<Obj> all = new ArrayList<>();
            if (segment == 8) all.addAll(open);
            else for (List<Obj> p : segments.get(segment)) all.addAll(p);
            return (int) all.stream().filter(o -> o.alive).count();
        }

        int count(int what) {
            if (what < 0 || what > 17) return -1;
            if (what < 12) return c[what];
            switch (what) {
                case 12: return alive().size();
                case 13: return sets.stream().mapToInt(List::size).sum();
                case 14: return places(open);
                case 15: return head;
                case 16: return segments.get(head).size();
                default: return closed ? 1 : 0;
            }
        }

        int close() {
            if (closed) return -2;
            closed = true;
            return 1;
        }

        int crash() {
            int was = alive().size();
            empty();
            closed = true;
            return was;
        }

        int open() {
            if (!closed) return -1;
            closed = false;
            return alive().size();
        }

        int check() {
            return closed ? -2 : 0;
        }
    }

    private static int wrong = 0;
    private static final long[] seen = new long[12];

    private static void due(String where, String call, long got, long want) {
        if (got != want && wrong++ < 40) {
            System.out.println(where + ": " + call + " answered " + got + ", due is " + want);
        }
    }

    /** What a kind of run likes: which keys, how long values, how often something is asked. */
    private static final class Taste {
        final long[] keys;
        final int shortest, longest, gets, removes, shuts;

        Taste(Random r) {
            int many = new int[] {5, 40, 70, 200, 400}[r.nextInt(5)];
            int sets = new int[] {1, 2, 8, 64, 64, 64}[r.nextInt(6)];
            EmberCache tool = new EmberCache();
            keys = new long[many];
            for (int i = 0; i < many; i++) {
                long m = r.nextLong();
                if (r.nextInt(3) == 0) m &= 0xC3FFFL;
                long set = many <= 70 && sets == 64 ? i % 64 : r.nextInt(sets);
                keys[i] = r.nextInt(20) == 0 ? i : tool.unmix((m & ~63L) | set);
            }
            shortest = 1 + r.nextInt(12);
            longest = shortest + r.nextInt(13 - shortest);
            gets = new int[] {0, 10, 30, 60}[r.nextInt(4)];
            removes = new int[] {0, 2, 10}[r.nextInt(3)];
            shuts = new int[] {0, 0, 1, 3}[r.nextInt(4)];
        }
    }

    private static void randomRun(long seed) {
        Random r = new Random(seed);
        Taste taste = new Taste(r);
        EmberCache x = new EmberCache();
        Model m = new Model();
        String where = "seed " + seed;
        int calls = 0;
        while (calls < 330) {
            long key = taste.keys[r.nextInt(taste.keys.length)];
            int dice = r.nextInt(100);
            calls++;
            if (dice < taste.gets) {
                due(where, "get " + key, x.get(key), m.get(key));
                int i = r.nextInt(15) - 1;
                due(where, "got " + i, x.got(i), m.got(i));
                calls++;
            } else if (dice < taste.gets + taste.removes) {
                due(where, "remove " + key, x.remove(key), m.remove(key));
            } else if (dice < taste.gets + taste.removes + taste.shuts) {
                shutAndOpen(where, x, m, r, key);
                calls += 8;
            } else if (dice < taste.gets + taste.removes + taste.shuts + 12) {
                ask(where, x, m, r, key);
            } else {
                int n = taste.shortest + r.nextInt(taste.longest - taste.shortest + 1);
                if (r.nextInt(60) == 0) n = r.nextInt(40) - 14;
                int first = r.nextInt();
                int step = r.nextInt();
                due(where, "put " + key + " " + n, x.put(key, n, first, step), m.put(key, n, first, step));
            }
        }
        compareState(where, x, m, taste, r);
        for (int i = 0; i < 12; i++) seen[i] += m.c[i];
    }

    private static void ask(String at, EmberCache x, Model m, Random r, long key) {
        int set = r.nextInt(8) == 0 ? r.nextInt() : r.nextInt(66) - 1;
        int i = r.nextInt(10) - 1;
        switch (r.nextInt(9)) {
            case 0: due(at, "where " + key, x.where(key), m.where(key)); break;
            case 1: due(at, "mark " + key, x.mark(key), m.mark(key)); break;
            case 2: due(at, "stands " + set, x.stands(set), m.stands(set)); break;
            case 3: due(at, "key " + set + " " + i, x.key(set, i), m.key(set, i)); break;
            case 4: due(at, "filter " + set, x.filter(set), m.filter(set)); break;
            case 5: due(at, "alive " + i, x.alive(i), m.alive(i)); break;
            case 6: due(at, "check", x.check(), m.check()); break;
            default:
                int what = r.nextInt(20) - 1;
                due(at, "count " + what, x.count(what), m.count(what));
        }
    }

    private static void shutAndOpen(String at, EmberCache x, Model m, Random r, long key) {
        if (r.nextInt(4) != 0) due(at, "close", x.close(), m.close());
        if (r.nextInt(6) == 0) due(at, "crash", x.crash(), m.crash());
        ask(at, x, m, r, key);
        due(at, "put", x.put(key, 3, 1, 1), m.put(key, 3, 1, 1));
        due(at, "get", x.get(key), m.get(key));
        due(at, "got", x.got(1), m.got(1));
        due(at, "close", x.close(), m.close());
        due(at, "open", x.open(), m.open());
    }

    private static void compareState(String at, EmberCache x, Model m, Taste taste, Random r) {
        for (int what = 0; what < 18; what++) due(at, "count " + what, x.count(what), m.count(what));
        for (int s = 0; s < 9; s++) due(at, "alive " + s, x.alive(s), m.alive(s));
        due(at, "check", x.check(), m.check());
        for (int k = 0; k < 20; k++) {
            int set = r.nextInt(64);
            due(at, "stands " + set, x.stands(set), m.stands(set));
            due(at, "filter " + set, x.filter(set), m.filter(set));
            due(at, "key " + set + " 0", x.key(set, 0), m.key(set, 0));
        }
        for (int k = 0; k < 30; k++) {
            long key = taste.keys[r.nextInt(taste.keys.length)];
            due(at, "where " + key, x.where(key), m.where(key));
            due(at, "mark " + key, x.mark(key), m.mark(key));
        }
    }

    public static void main(String[] args) {
        for (long seed = 0; seed < 3000; seed++) randomRun(seed);
        for (int i = 0; i < 12; i++) {
            if (seen[i] == 0) {
                wrong++;
                System.out.println("no run came to what count(" + i + ") counts");
            }
        }
        System.out.println(wrong == 0 ? "all answers are as due" : wrong + " answers are not as due");
        if (wrong != 0) System.exit(1);
    }
}
