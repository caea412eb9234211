import java.util.ArrayList;
import java.util.List;

/**
 * Refused calls: each throws the very exception that is due, the first one told of several, and
 * changes nothing. Whether it changed something is seen by comparing its object with a twin that
 * had all the calls but this one.
 */
final class RefusedTest {
    private interface Refused {
        Object on(ThreadSlots x);
    }

    private interface View {
        String of(ThreadSlots x);
    }

    private static final String INDEX = "IndexOutOfBoundsException";
    private static final String ARGUMENT = "IllegalArgumentException";
    private static final String STATE = "IllegalStateException";

    private static final int LEAST = Integer.MIN_VALUE;
    private static final int MOST = Integer.MAX_VALUE;

    /** How many entries queue 0 has. */
    private static final int ENTRIES = 3;
    private static final int FULL_QUEUE = 5;
    private static final int EMPTY_QUEUE = 6;

    public static void main(String[] args) {
        int[] sizes = {1, 3, 16};
        for (int n : sizes) {
            wrongNumbersOfTheCore(n);
            wrongThreads(n);
            wrongNumbersOfThreads(n);
            wrongQueues(n);
            wrongNumbersOfQueues(n);
            noSuchEntry(n);
            full(n);
            wrongRegisters(n);
            wrongReadings(n);
            firstToldOfSeveral(n);
        }
        Check.end("RefusedTest");
    }

    /** An object in which every part of the state is other than at first. */
    private static ThreadSlots prepared(int n) {
        ThreadSlots x = new ThreadSlots(n, 77);
        for (int t = 0; t < n; t++) {
            x.ready(t, t % 5 != 3);
        }
        x.rule(3);
        x.bound(7);
        x.run(5);
        x.set(0, 11);
        x.set(15, 12);
        x.cost(4);
        x.run(3);
        x.miss(n - 1);
        x.rank(n - 1, 2);
        x.sleep(n / 2, 20);
        x.put(0, 0, 41);
        x.put(0, n - 1, 42);
        x.put(0, 0, 43);
        x.part(0, 0, 2);
        x.part(7, n - 1, 0);
        for (int i = 0; i < 32; i++) {
            x.put(FULL_QUEUE, i % n, i);
        }
        return x;
    }

    private static void refused(int n, String what, String due, Refused call) {
        View[] views = {RefusedTest::readings, RefusedTest::settings, RefusedTest::nextCycles};
        String name = "of " + n + " threads: " + what;
        for (View view : views) {
            ThreadSlots x = prepared(n);
            Check.same(name, Check.outcome(() -> call.on(x)).toString(), due);
            Check.same(name + ": what is told then", view.of(x), view.of(prepared(n)));
        }
    }

    private static String readings(ThreadSlots x) {
        List<Integer> told = new ArrayList<>();
        for (int what = 0; what < 8; what++) {
            told.add(x.count(what));
        }
        int n = x.count(4);
        for (int t = 0; t < n; t++) {
            for (int what = 0; what < 6; what++) {
                told.add(x.thread(t, what));
            }
            told.add(x.share(t, 0));
            told.add(x.share(t, 1));
            for (int k = 0; k < 16; k++) {
                told.add(x.register(t, k));
            }
        }
        return told.toString();
    }

    /** What only a new setting tells, and the entries. */
    private static String settings(ThreadSlots x) {
        List<Object> told = new ArrayList<>(List.of(x.rule(0), x.bound(0), x.cost(0)));
        int n = x.count(4);
        for (int t = 0; t < n; t++) {
            told.addAll(List.of(x.ready(t, true), x.rank(t, 0), x.sleep(t, 0)));
        }
        for (int q = 0; q < 8; q++) {
            for (int t = 0; t < n; t++) {
                told.add(x.part(q, t, 32));
            }
            told.add(entries(x, q));
        }
        return told.toString();
    }

    private static String entries(ThreadSlots x, int queue) {
        StringBuilder text = new StringBuilder("queue ").append(queue);
        for (int k = 0; k < 33; k++) {
            int k1 = k;
            Object owner = Check.outcome(() -> x.entry(queue, k1, 0));
            if (owner.equals(INDEX)) {
                break;
            }
            text.append(' ').append(owner).append(':').append(x.entry(queue, k, 1));
        }
        return text.toString();
    }

    private static String nextCycles(ThreadSlots x) {
        return Check.goers(x, 100) + " " + x.run(2000);
    }

    private static int[] wrongThreadsOf(int n) {
        return new int[] {LEAST, -2, -1, n, n + 1, 16, 17, MOST};
    }

    private static void wrongNumbersOfTheCore(int n) {
        for (int v : new int[] {LEAST, -1, 4, MOST}) {
            refused(n, "rule " + v, ARGUMENT, x -> x.rule(v));
        }
        for (int v : new int[] {LEAST, -1, 1001, MOST}) {
            refused(n, "bound " + v, ARGUMENT, x -> x.bound(v));
        }
        for (int v : new int[] {LEAST, -1, 21, MOST}) {
            refused(n, "cost " + v, ARGUMENT, x -> x.cost(v));
        }
        for (int v : new int[] {LEAST, -1, 0, 2001, MOST}) {
            refused(n, "run " + v, ARGUMENT, x -> x.run(v));
        }
    }

    private static void wrongThreads(int n) {
        for (int t : wrongThreadsOf(n)) {
            refused(n, "ready of " + t, INDEX, x -> x.ready(t, true));
            refused(n, "not ready of " + t, INDEX, x -> x.ready(t, false));
            refused(n, "rank of " + t, INDEX, x -> x.rank(t, 1));
            refused(n, "sleep of " + t, INDEX, x -> x.sleep(t, 1000));
            refused(n, "miss of " + t, INDEX, x -> x.miss(t));
            refused(n, "part of " + t, INDEX, x -> x.part(0, t, 1));
            refused(n, "put of " + t, INDEX, x -> x.put(0, t, 1));
            if (t != ThreadSlots.NONE) {
                refused(n, "take of " + t, INDEX, x -> x.take(0, t));
            }
            refused(n, "register of " + t, INDEX, x -> x.register(t, 0));
            refused(n, "thread of " + t, INDEX, x -> x.thread(t, 0));
            refused(n, "share of " + t, INDEX, x -> x.share(t, 0));
        }
    }

    private static void wrongNumbersOfThreads(int n) {
        for (int t : new int[] {0, n - 1}) {
            for (int v : new int[] {LEAST, -1, 16, MOST}) {
                refused(n, "rank " + v, ARGUMENT, x -> x.rank(t, v));
            }
            for (int v : new int[] {LEAST, -1, 1000001, MOST}) {
                refused(n, "sleep " + v, ARGUMENT, x -> x.sleep(t, v));
            }
        }
    }

    private static void wrongQueues(int n) {
        for (int q : new int[] {LEAST, -1, 8, 9, MOST}) {
            refused(n, "part of queue " + q, INDEX, x -> x.part(q, 0, 1));
            refused(n, "put into queue " + q, INDEX, x -> x.put(q, 0, 1));
            refused(n, "take of queue " + q, INDEX, x -> x.take(q, 0));
            refused(n, "take of any of queue " + q, INDEX, x -> x.take(q, ThreadSlots.NONE));
            refused(n, "entry of queue " + q, INDEX, x -> x.entry(q, 0, 0));
        }
    }

    private static void wrongNumbersOfQueues(int n) {
        for (int q : new int[] {0, 7}) {
            for (int v : new int[] {LEAST, -1, 33, MOST}) {
                refused(n, "part " + v, ARGUMENT, x -> x.part(q, 0, v));
            }
        }
        for (int what : new int[] {LEAST, -1, 2, MOST}) {
            refused(n, "entry's what " + what, INDEX, x -> x.entry(0, 0, what));
        }
    }

    private static void noSuchEntry(int n) {
        refused(n, "take of any of an empty queue", STATE, x -> x.take(EMPTY_QUEUE, ThreadSlots.NONE));
        for (int t = 0; t < n; t++) {
            int t1 = t;
            refused(n, "take of " + t + " of an empty queue", STATE, x -> x.take(EMPTY_QUEUE, t1));
        }
        for (int t = 1; t < n - 1; t++) {
            int t1 = t;
            refused(n, "take of " + t + ", which has none", STATE, x -> x.take(0, t1));
        }
        for (int k : new int[] {LEAST, -1, ENTRIES, 31, 32, MOST}) {
            refused(n, "entry " + k, INDEX, x -> x.entry(0, k, 0));
        }
        for (int k : new int[] {LEAST, -1, 32, 33, MOST}) {
            refused(n, "entry " + k + " of a full queue", INDEX, x -> x.entry(FULL_QUEUE, k, 0));
        }
        for (int k : new int[] {-1, 0, 1}) {
            refused(n, "entry " + k + " of an empty queue", INDEX, x -> x.entry(EMPTY_QUEUE, k, 0));
        }
    }

    private static void full(int n) {
        refused(n, "put into a full part", "-1", x -> x.put(0, 0, 9));
        refused(n, "put into a part of 0", "-1", x -> x.put(7, n - 1, 9));
        for (int t = 0; t < n; t++) {
            int t1 = t;
            refused(n, "put of " + t + " into a full queue", "-1", x -> x.put(FULL_QUEUE, t1, 9));
        }
    }

    private static void wrongRegisters(int n) {
        for (int k : new int[] {LEAST, -1, 16, 17, MOST}) {
            refused(n, "set " + k, INDEX, x -> x.set(k, 9));
            refused(n, "register " + k, INDEX, x -> x.register(n - 1, k));
        }
    }

    private static void wrongReadings(int n) {
        for (int what : new int[] {LEAST, -1, 6, 7, MOST}) {
            refused(n, "thread's what " + what, INDEX, x -> x.thread(0, what));
        }
        for (int what : new int[] {LEAST, -1, 2, 3, MOST}) {
            refused(n, "share's what " + what, INDEX, x -> x.share(0, what));
        }
        for (int what : new int[] {LEAST, -1, 8, 9, MOST}) {
            refused(n, "count " + what, "-1", x -> x.count(what));
        }
    }

    /** "Of several exceptions the first one told is thrown." */
    private static void firstToldOfSeveral(int n) {
        for (int t : wrongThreadsOf(n)) {
            refused(n, "rank 16 of " + t, INDEX, x -> x.rank(t, 16));
            refused(n, "rank -1 of " + t, INDEX, x -> x.rank(t, -1));
            refused(n, "sleep 1000001 of " + t, INDEX, x -> x.sleep(t, 1000001));
            refused(n, "sleep -1 of " + t, INDEX, x -> x.sleep(t, -1));
            refused(n, "part 33 of " + t, INDEX, x -> x.part(0, t, 33));
            refused(n, "part -1 of " + t, INDEX, x -> x.part(0, t, -1));
            refused(n, "put of " + t + " into a full queue", INDEX, x -> x.put(FULL_QUEUE, t, 1));
            if (t != ThreadSlots.NONE) {
                refused(n, "take of " + t + " of an empty queue", INDEX, x -> x.take(EMPTY_QUEUE, t));
            }
        }
        for (int q : new int[] {LEAST, -1, 8, MOST}) {
            refused(n, "part 33 of queue " + q, INDEX, x -> x.part(q, 0, 33));
            refused(n, "part 33 of queue and thread " + q, INDEX, x -> x.part(q, n, 33));
        }
    }
}
