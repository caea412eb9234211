/** Promises 15 to 19: set, register, thread, share and count. */
final class ReadingsTest {
    public static void main(String[] args) {
        set();
        register();
        thread();
        sleepOfThread();
        share();
        count();
        Check.end("ReadingsTest");
    }

    private static void set() {
        ThreadSlots x = new ThreadSlots(2, 0);
        Check.same("of thread 0 at first", x.set(15, 4), 0);
        Check.same("the one before", x.set(15, 5), 4);
        Check.same("in thread 0", x.register(0, 15), 5);
        Check.same("not in thread 1", x.register(1, 15), 0);
        x.ready(1, true);
        x.cycle();
        Check.same("of the one that went last", x.set(15, 6), 0);
        Check.same("in thread 1", x.register(1, 15), 6);
        Check.same("thread 0 keeps its own", x.register(0, 15), 5);
        x.ready(1, false);
        x.cycle();
        Check.same("idle cycles change nothing", x.set(15, 7), 6);
        x.ready(0, true);
        x.cost(1);
        x.cycle();
        Check.same("the change over does not either", x.set(15, 8), 7);
        x.cycle();
        Check.same("thread 0 went", x.set(15, Integer.MIN_VALUE), 5);
        Check.noIndex("register 16", () -> x.set(16, 1));
        Check.noIndex("register -1", () -> x.set(-1, 1));
        Check.same("in thread 0", x.register(0, 15), Integer.MIN_VALUE);
    }

    private static void register() {
        ThreadSlots x = new ThreadSlots(2, 0);
        for (int k = 0; k < 16; k++) {
            x.set(k, 100 + k);
        }
        for (int k = 0; k < 16; k++) {
            Check.same("register " + k, x.register(0, k), 100 + k);
            Check.same("register " + k + " of 1", x.register(1, k), 0);
        }
        Check.noIndex("register 16", () -> x.register(0, 16));
        Check.noIndex("register -1", () -> x.register(0, -1));
        Check.noIndex("thread 2", () -> x.register(2, 0));
        Check.noIndex("thread -1", () -> x.register(-1, 0));
    }

    private static void thread() {
        ThreadSlots x = Check.allReady(3);
        x.cost(1);
        x.miss(1);
        x.run(4);
        int[][] due = {{3, 3, 1, 0, 0, 0}, {1, 2, 1, 1, 0, 1}, {4, 4, 0, 0, 0, 1}};
        for (int t = 0; t < 3; t++) {
            for (int what = 0; what < 6; what++) {
                Check.same("thread " + t + " " + what, x.thread(t, what), due[t][what]);
            }
        }
        x.cycle();
        Check.same("waits no more", x.thread(2, 0), 0);
        Check.same("the longest stays", x.thread(2, 1), 4);
        Check.noIndex("what 6", () -> x.thread(0, 6));
        Check.noIndex("what -1", () -> x.thread(0, -1));
        Check.noIndex("thread 3", () -> x.thread(3, 0));
        Check.noIndex("thread -1", () -> x.thread(-1, 0));
    }

    private static void sleepOfThread() {
        ThreadSlots x = new ThreadSlots(2, 0);
        x.ready(0, true);
        x.sleep(0, 3);
        x.sleep(1, 3);
        x.run(2);
        Check.same("asleep", x.thread(0, 4), 3);
        Check.same("asleep and not ready", x.thread(1, 4), 3);
        x.cycle();
        Check.same("over", x.thread(0, 4), 0);
        Check.same("over, also of one that is not ready", x.thread(1, 4), 0);
        Check.same("it did not sleep", x.sleep(1, 9), 0);
        Check.same("asleep again", x.thread(1, 4), 9);
        x.sleep(1, 0);
        Check.same("no more", x.thread(1, 4), 0);
    }

    private static void share() {
        ThreadSlots x = Check.allReady(3);
        x.ready(2, false);
        Check.same("none went: above", x.share(0, 0), 0);
        Check.same("none went: below", x.share(0, 1), 1);
        x.run(8);
        Check.same("4 of 8: above", x.share(0, 0), 1);
        Check.same("4 of 8: below", x.share(0, 1), 2);
        Check.same("0 of 8: above", x.share(2, 0), 0);
        Check.same("0 of 8: below", x.share(2, 1), 1);
        x.ready(1, false);
        x.run(2);
        Check.same("6 of 10: above", x.share(0, 0), 3);
        Check.same("6 of 10: below", x.share(0, 1), 5);
        Check.same("4 of 10: above", x.share(1, 0), 2);
        Check.same("4 of 10: below", x.share(1, 1), 5);
        x.ready(0, false);
        x.run(3);
        Check.same("idle cycles do not count", x.share(0, 1), 5);
        Check.noIndex("what 2", () -> x.share(0, 2));
        Check.noIndex("what -1", () -> x.share(0, -1));
        Check.noIndex("thread 3", () -> x.share(3, 0));
        Check.noIndex("thread -1", () -> x.share(-1, 0));

        ThreadSlots y = Check.allReady(1);
        y.run(6);
        Check.same("all: above", y.share(0, 0), 1);
        Check.same("all: below", y.share(0, 1), 1);
    }

    private static void count() {
        ThreadSlots x = new ThreadSlots(5, 0);
        x.run(2);
        x.ready(3, true);
        x.run(3);
        x.ready(4, true);
        x.cost(3);
        x.cycle();
        x.put(0, 1, 1);
        x.put(7, 1, 1);
        int[] due = {6, 3, 2, 1, 5, 3, 4, 2};
        for (int what = 0; what < 8; what++) {
            Check.same("count " + what, x.count(what), due[what]);
        }
        Check.same("count 8", x.count(8), -1);
        Check.same("count -1", x.count(-1), -1);
        Check.same("count least", x.count(Integer.MIN_VALUE), -1);
        x.run(3);
        int[] later = {9, 4, 2, 3, 5, 4, -1, 2};
        for (int what = 0; what < 8; what++) {
            Check.same("later: count " + what, x.count(what), later[what]);
        }
    }
}
