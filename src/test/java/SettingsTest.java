/** Promises 1 to 8: a new object, and what is told to it. */
final class SettingsTest {
    public static void main(String[] args) {
        newObject();
        threadsOfNewObject();
        seedOfNewObject();
        rule();
        bound();
        cost();
        ready();
        rank();
        sleep();
        miss();
        Check.end("SettingsTest");
    }

    private static void newObject() {
        ThreadSlots x = new ThreadSlots(3, 7);
        for (int what = 0; what < 8; what++) {
            int want = what == 4 ? 3 : what == 5 || what == 6 ? -1 : 0;
            Check.same("new: count " + what, x.count(what), want);
        }
        for (int t = 0; t < 3; t++) {
            for (int what = 0; what < 6; what++) {
                Check.same("new: thread " + t + " " + what, x.thread(t, what), 0);
            }
            for (int k = 0; k < 16; k++) {
                Check.same("new: register " + t + " " + k, x.register(t, k), 0);
            }
            for (int q = 0; q < 8; q++) {
                Check.same("new: part", x.part(q, t, 32), 32);
            }
            Check.same("new: ready", x.ready(t, false), false);
            Check.same("new: rank", x.rank(t, 0), 0);
            Check.same("new: sleep", x.sleep(t, 0), 0);
        }
        Check.same("new: rule", x.rule(0), 0);
        Check.same("new: bound", x.bound(0), 0);
        Check.same("new: cost", x.cost(0), 0);
        Check.same("new: cycle", x.cycle(), -1);
    }

    private static void threadsOfNewObject() {
        int[][] cases = {
            {1, 1}, {2, 2}, {15, 15}, {16, 16}, {17, 1}, {18, 2}, {32, 16}, {33, 1}, {0, 16}, {-1, 15}, {-15, 1},
            {-16, 16}, {-17, 15}, {Integer.MAX_VALUE, 15}, {Integer.MIN_VALUE, 16}, {Integer.MIN_VALUE + 1, 1}};
        for (int[] c : cases) {
            ThreadSlots x = new ThreadSlots(c[0], 0);
            Check.same("threads of " + c[0], x.count(4), c[1]);
            Check.same("the last thread", x.ready(c[1] - 1, true), false);
            Check.noIndex("the one behind it", () -> x.ready(c[1], true));
        }
    }

    /** x of seed 0: 12345, 1406932606, 654583775, 1449466924; the upper parts are 0, 21468, 9988, 22117. */
    private static void seedOfNewObject() {
        int[] same = {0, Integer.MIN_VALUE};
        for (int seed : same) {
            ThreadSlots x = new ThreadSlots(16, seed);
            for (int t = 0; t < 16; t++) {
                x.ready(t, true);
            }
            x.rule(3);
            Check.same("seed " + seed, Check.goers(x, 4), "0c45");
        }
        int[] seeds = {1, 99, 65535, -1, -99, Integer.MAX_VALUE, Integer.MIN_VALUE + 5};
        for (int seed : seeds) {
            ThreadSlots x = new ThreadSlots(2, seed);
            x.ready(0, true);
            x.ready(1, true);
            x.rule(3);
            long value = seed < 0 ? seed + 2147483648L : seed;
            for (int i = 0; i < 40; i++) {
                value = (1103515245L * value + 12345L) % 2147483648L;
                Check.same("seed " + seed + ", cycle " + i, x.cycle(), (int) (value / 65536 % 2));
            }
        }
    }

    private static void rule() {
        ThreadSlots x = new ThreadSlots(2, 0);
        Check.same("rule 3", x.rule(3), 0);
        Check.noArgument("rule 4", () -> x.rule(4));
        Check.noArgument("rule -1", () -> x.rule(-1));
        Check.noArgument("rule least", () -> x.rule(Integer.MIN_VALUE));
        Check.same("rule 1", x.rule(1), 3);
        Check.same("rule 2", x.rule(2), 1);
        Check.same("rule 0", x.rule(0), 2);
    }

    private static void bound() {
        ThreadSlots x = new ThreadSlots(2, 0);
        Check.same("bound 1000", x.bound(1000), 0);
        Check.noArgument("bound 1001", () -> x.bound(1001));
        Check.noArgument("bound -1", () -> x.bound(-1));
        Check.same("bound 1", x.bound(1), 1000);
        Check.same("bound 0", x.bound(0), 1);
    }

    private static void cost() {
        ThreadSlots x = new ThreadSlots(2, 0);
        Check.same("cost 20", x.cost(20), 0);
        Check.noArgument("cost 21", () -> x.cost(21));
        Check.noArgument("cost -1", () -> x.cost(-1));
        Check.same("cost 1", x.cost(1), 20);
        Check.same("cost 0", x.cost(0), 1);
    }

    private static void ready() {
        ThreadSlots x = new ThreadSlots(3, 0);
        Check.same("ready", x.ready(1, true), false);
        Check.same("ready again", x.ready(1, true), true);
        Check.same("no more", x.ready(1, false), true);
        Check.same("no more again", x.ready(1, false), false);
        Check.noIndex("ready 3", () -> x.ready(3, true));
        Check.noIndex("ready -1", () -> x.ready(-1, true));

        ThreadSlots y = Check.allReady(2);
        y.rank(0, 1);
        y.run(4);
        y.ready(1, false);
        y.run(4);
        Check.same("waiting stays", y.thread(1, 0), 4);
        y.ready(1, true);
        Check.same("waiting stays when ready again", y.thread(1, 0), 4);
        y.cycle();
        Check.same("and goes on", y.thread(1, 0), 5);
    }

    private static void rank() {
        ThreadSlots x = Check.allReady(3);
        Check.same("rank 15", x.rank(1, 15), 0);
        Check.noArgument("rank 16", () -> x.rank(1, 16));
        Check.noArgument("rank -1", () -> x.rank(1, -1));
        Check.noIndex("rank of 3", () -> x.rank(3, 1));
        Check.noIndex("rank of 3 before the rank", () -> x.rank(3, 99));
        Check.noIndex("rank of -1", () -> x.rank(-1, -1));
        Check.same("the greatest rank goes", Check.goers(x, 3), "111");
        Check.same("rank 2 of another", x.rank(2, 15), 0);
        Check.same("equals take turns", Check.goers(x, 4), "2121");
        Check.same("rank 0 again", x.rank(1, 0), 15);
        Check.same("the other one goes", Check.goers(x, 2), "22");
        x.ready(2, false);
        Check.same("the rank of one that can not go", Check.goers(x, 4), "0101");
    }

    private static void sleep() {
        ThreadSlots x = Check.allReady(2);
        Check.same("sleep", x.sleep(0, 3), 0);
        Check.same("sleep told anew", x.sleep(0, 4), 3);
        Check.noArgument("sleep -1", () -> x.sleep(0, -1));
        Check.noArgument("sleep 1000001", () -> x.sleep(0, 1000001));
        Check.noIndex("sleep of 2", () -> x.sleep(2, 5));
        Check.noIndex("sleep of 2 before the cycle", () -> x.sleep(2, -5));
        Check.same("goes in its sleep's cycle", Check.goers(x, 6), "111010");
        Check.same("over", x.sleep(0, 1000000), 0);
        Check.same("no more", x.sleep(0, 0), 1000000);
        Check.same("it did not sleep", x.sleep(0, 0), 0);
        Check.same("goes at once", Check.goers(x, 2), "10");
        x.sleep(1, 1000000);
        Check.same("long", Check.goers(x, 3), "000");
        Check.same("a sleeper does not wait", x.thread(1, 0), 1);

        ThreadSlots y = Check.allReady(1);
        y.run(5);
        y.sleep(0, 6);
        Check.same("until the next cycle", y.cycle(), 0);
        y.sleep(0, 2);
        Check.same("until a cycle that is past", y.cycle(), 0);
    }

    private static void miss() {
        ThreadSlots x = new ThreadSlots(2, 0);
        Check.same("a miss", x.miss(1), 1);
        Check.same("another", x.miss(1), 2);
        Check.same("of another", x.miss(0), 1);
        Check.noIndex("miss of 2", () -> x.miss(2));
        Check.noIndex("miss of -1", () -> x.miss(-1));
        Check.same("misses stay", x.thread(1, 3), 2);
    }
}
