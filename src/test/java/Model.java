import java.math.BigInteger;
import java.util.ArrayList;
import java.util.Comparator;
import java.util.List;

/** The document once more, written another way (lists and orders), to compare long runs of calls with. */
final class Model {
    static final class Turn {
        final int number;
        final int[] bank = new int[16];
        boolean ready;
        int rank;
        int sleep;
        int misses;
        int waiting;
        int longest;
        int gone;
        int changes;

        Turn(int number) {
            this.number = number;
        }
    }

    record Entry(int thread, int number) {
    }

    private final List<Turn> turns = new ArrayList<>();
    private final List<List<Entry>> queues = new ArrayList<>();
    private final int[][] parts = new int[8][16];
    private long x;
    private int rule;
    private int bound;
    private int cost;
    private Turn last;
    private Turn target;
    private int changeEnds;
    private int cycles;
    private int idle;
    private int busy;

    Model(int threads, int seed) {
        long rest = ((long) threads - 1) % 16;
        long n = 1 + (rest < 0 ? rest + 16 : rest);
        for (int t = 0; t < n; t++) {
            turns.add(new Turn(t));
        }
        for (int q = 0; q < 8; q++) {
            queues.add(new ArrayList<>());
            for (int t = 0; t < 16; t++) {
                parts[q][t] = 32;
            }
        }
        x = ((long) seed + (1L << 32)) % (1L << 31);
    }

    /** The answer of a call of the face, by name; a boolean is 1 or 0. */
    int answer(String call, int a, int b, int c) {
        switch (call) {
            case "rule": { range(a, 0, 3); int old = rule; rule = a; return old; }
            case "bound": { range(a, 0, 1000); int old = bound; bound = a; return old; }
            case "cost": { range(a, 0, 20); int old = cost; cost = a; return old; }
            case "ready": { Turn t = turn(a); boolean old = t.ready; t.ready = b != 0; return old ? 1 : 0; }
            case "rank": { Turn t = turn(a); range(b, 0, 15); int old = t.rank; t.rank = b; return old; }
            case "sleep": { Turn t = turn(a); range(b, 0, 1000000); int old = t.sleep; t.sleep = b; return old; }
            case "miss": return ++turn(a).misses;
            case "cycle": return cycle();
            case "run": return run(a);
            case "part": { queue(a); turn(b); range(c, 0, 32); int old = parts[a][b]; parts[a][b] = c; return old; }
            case "put": return put(queue(a), turn(b).number, c, parts[a][b]);
            case "take": return take(queue(a), b == -1 ? -1 : turn(b).number);
            case "entry": return entry(queue(a), b, c);
            case "set": { index(a, 16); int[] bank = (last == null ? turn(0) : last).bank; int old = bank[a]; bank[a] = b; return old; }
            case "register": { int[] bank = turn(a).bank; index(b, 16); return bank[b]; }
            case "thread": return reading(turn(a), b);
            case "share": return share(turn(a), b);
            default: return count(a);
        }
    }

    private int run(int n) {
        range(n, 1, 2000);
        int went = 0;
        for (int i = 0; i < n; i++) {
            went += cycle() == -1 ? 0 : 1;
        }
        return went;
    }

    private int cycle() {
        cycles++;
        turns.stream().filter(t -> t.sleep <= cycles).forEach(t -> t.sleep = 0);
        List<Turn> able = turns.stream().filter(t -> t.ready && t.sleep == 0).toList();
        Turn goer = null;
        if (cycles < changeEnds) {
            busy++;
        } else if (able.contains(target)) {
            goer = target;
        } else if (able.isEmpty()) {
            idle++;
        } else {
            Turn chosen = choose(able);
            if (last != null && last != chosen && cost > 0) {
                target = chosen;
                changeEnds = cycles + cost;
                chosen.changes++;
                busy++;
            } else {
                goer = chosen;
            }
        }
        for (Turn t : able) {
            t.waiting = t == goer ? 0 : t.waiting + 1;
            t.longest = Math.max(t.longest, t.waiting);
        }
        if (goer == null) {
            return -1;
        }
        goer.gone++;
        last = goer;
        target = null;
        return goer.number;
    }

    private Turn choose(List<Turn> able) {
        int most = able.stream().mapToInt(t -> t.waiting).max().getAsInt();
        if (bound > 0 && most >= bound) {
            return able.stream().filter(t -> t.waiting == most).findFirst().get();
        }
        int top = able.stream().mapToInt(t -> t.rank).max().getAsInt();
        List<Turn> best = able.stream().filter(t -> t.rank == top).toList();
        int n = turns.size();
        int start = last == null ? 0 : last.number + 1;
        switch (rule) {
            case 0: return best.stream().min(Comparator.comparingInt(t -> (t.number - start + n) % n)).get();
            case 1: return best.stream().min(Comparator.comparingInt((Turn t) -> t.gone).thenComparingInt(t -> t.number)).get();
            case 2: return best.stream().min(Comparator.comparingInt((Turn t) -> t.misses).thenComparingInt(t -> t.number)).get();
            default:
                x = (1103515245L * x + 12345L) % (1L << 31);
                return best.get((int) (x / 65536 % best.size()));
        }
    }

    private static int put(List<Entry> queue, int thread, int number, int part) {
        long held = queue.stream().filter(e -> e.thread() == thread).count();
        if (held >= part || queue.size() == 32) {
            return -1;
        }
        queue.add(new Entry(thread, number));
        return (int) held + 1;
    }

    private static int take(List<Entry> queue, int thread) {
        for (Entry e : queue) {
            if (thread == -1 || e.thread() == thread) {
                queue.remove(e);
                return e.number();
            }
        }
        throw new IllegalStateException();
    }

    private static int entry(List<Entry> queue, int k, int what) {
        index(k, queue.size());
        index(what, 2);
        return what == 0 ? queue.get(k).thread() : queue.get(k).number();
    }

    private static int reading(Turn t, int what) {
        index(what, 6);
        return new int[] {t.waiting, t.longest, t.gone, t.misses, t.sleep, t.changes}[what];
    }

    private int goneInAll() {
        return turns.stream().mapToInt(t -> t.gone).sum();
    }

    private int share(Turn t, int what) {
        index(what, 2);
        int all = goneInAll();
        if (all == 0) {
            return what;
        }
        int divisor = BigInteger.valueOf(t.gone).gcd(BigInteger.valueOf(all)).intValue();
        return (what == 0 ? t.gone : all) / divisor;
    }

    private int count(int what) {
        if (what < 0 || what > 7) {
            return -1;
        }
        int entries = queues.stream().mapToInt(List::size).sum();
        return new int[] {cycles, goneInAll(), idle, busy, turns.size(), last == null ? -1 : last.number,
            target == null ? -1 : target.number, entries}[what];
    }

    private Turn turn(int thread) {
        index(thread, turns.size());
        return turns.get(thread);
    }

    private List<Entry> queue(int queue) {
        index(queue, 8);
        return queues.get(queue);
    }

    private static void index(int k, int length) {
        if (k < 0 || k >= length) {
            throw new IndexOutOfBoundsException();
        }
    }

    private static void range(int value, int least, int most) {
        if (value < least || value > most) {
            throw new IllegalArgumentException();
        }
    }
}
