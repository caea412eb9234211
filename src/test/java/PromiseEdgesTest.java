import java.math.BigInteger;

/**
 * Each sentence of promises 1 to 19 that names an edge, with a test of its own below it; that the
 * refused calls change nothing, RefusedTest looks at.
 */
final class PromiseEdgesTest {
    private static final int LEAST = Integer.MIN_VALUE;
    private static final int MOST = Integer.MAX_VALUE;

    public static void main(String[] args) {
        threadsModulo16();
        noThreadIsReady();
        noBoundNoCost();
        lowest31BitsOfSeed();
        registersAreZero();
        rules();
        bounds();
        costs();
        costGoesOnAsItBegan();
        readyOrNot();
        waitingStays();
        ranks();
        sleeps();
        didNotSleep();
        sleepsNoMore();
        longestSleep();
        misses();
        cycleWithoutGoer();
        runOfOneAndOf2000();
        runCountsGoersAlone();
        parts();
        whatIsThereStays();
        putBehindTheOthers();
        putIntoFullPart();
        putIntoFullQueue();
        takeOfThread();
        takeOfAny();
        takeOfNoThread();
        takeWithoutEntry();
        entries();
        entryThatIsNotThere();
        setBeforeAnyWent();
        setOfTheLastOne();
        setWithoutRegister();
        registers();
        threadReadings();
        longestWaiting();
        sleepIsOverOfOneNotReady();
        changesBegun();
        shareWhenNoneWent();
        shareReduced();
        shareOfManyCycles();
        counts();
        countOfNone();
        countOfAnotherWhat();
        Check.end("PromiseEdgesTest");
    }

    /** Promise 1: "N is 1 + (threads - 1) modulo 16 (the rest not below 0)" */
    private static void threadsModulo16() {
        for (int threads = -40; threads <= 40; threads++) {
            checkThreads(threads);
        }
        int[] far = {LEAST, LEAST + 1, LEAST + 2, LEAST + 15, LEAST + 16, MOST, MOST - 1, MOST - 14, MOST - 15};
        for (int threads : far) {
            checkThreads(threads);
        }
    }

    private static void checkThreads(int threads) {
        BigInteger sixteen = BigInteger.valueOf(16);
        int due = 1 + BigInteger.valueOf(threads - 1L).mod(sixteen).intValue();
        ThreadSlots x = new ThreadSlots(threads, 0);
        Check.same("N of " + threads, x.count(4), due);
        Check.same("the last thread of " + threads, x.miss(due - 1), 1);
        Check.noIndex("the one behind the last of " + threads, () -> x.miss(due));
    }

    /** Promise 1: "no thread is ready" */
    private static void noThreadIsReady() {
        ThreadSlots x = new ThreadSlots(16, 0);
        Check.same("no thread goes", x.run(2000), 0);
        for (int t = 0; t < 16; t++) {
            Check.same("ready " + t, x.ready(t, true), false);
        }
    }

    /** Promise 1: "rule 0, no bound, no cost" */
    private static void noBoundNoCost() {
        ThreadSlots x = Check.allReady(2);
        x.rank(1, 1);
        x.run(2000);
        Check.same("no bound on 2000 cycles", x.thread(0, 2), 0);
        x.rank(1, 0);
        Check.same("no cost, turns", Check.goers(x, 4), "0101");
        ThreadSlots y = new ThreadSlots(2, 0);
        Check.same("rule", y.rule(3), 0);
        Check.same("bound", y.bound(1000), 0);
        Check.same("cost", y.cost(20), 0);
    }

    /** Promise 1: "x is the seed's lowest 31 bits" */
    private static void lowest31BitsOfSeed() {
        int[] seeds = {0, 1, -1, LEAST, LEAST + 1, MOST, -2, 12345, -12345};
        for (int seed : seeds) {
            ThreadSlots x = new ThreadSlots(16, seed);
            for (int t = 0; t < 16; t++) {
                x.ready(t, true);
            }
            x.rule(3);
            BigInteger two31 = BigInteger.ONE.shiftLeft(31);
            BigInteger due = BigInteger.valueOf(seed).mod(two31);
            for (int i = 0; i < 50; i++) {
                due = due.multiply(BigInteger.valueOf(1103515245)).add(BigInteger.valueOf(12345)).mod(two31);
                Check.same("cycle " + i + " of seed " + seed, x.cycle(), due.intValue() / 65536 % 16);
            }
        }
    }

    /** Promise 1: "registers are 0" */
    private static void registersAreZero() {
        ThreadSlots x = new ThreadSlots(16, 7);
        for (int t = 0; t < 16; t++) {
            for (int k = 0; k < 16; k++) {
                Check.same("register " + k + " of " + t, x.register(t, k), 0);
            }
        }
    }

    /** Promise 2: "the one before", "not 0 .. 3" */
    private static void rules() {
        ThreadSlots x = new ThreadSlots(2, 0);
        int before = 0;
        for (int kind : new int[] {3, 0, 1, 2, 2, 3}) {
            Check.same("rule " + kind, x.rule(kind), before);
            before = kind;
        }
        Check.noArgument("rule 4", () -> x.rule(4));
        Check.noArgument("rule -1", () -> x.rule(-1));
        Check.same("still", x.rule(0), 3);
    }

    /** Promise 3: "(0: none): the one before", "not 0 .. 1000" */
    private static void bounds() {
        ThreadSlots x = new ThreadSlots(2, 0);
        int before = 0;
        for (int b : new int[] {1000, 0, 1, 999, 999, 2, 1000}) {
            Check.same("bound " + b, x.bound(b), before);
            before = b;
        }
        Check.noArgument("bound 1001", () -> x.bound(1001));
        Check.noArgument("bound -1", () -> x.bound(-1));
        Check.same("still", x.bound(0), 1000);
    }

    /** Promise 4: "the one before", "not 0 .. 20" */
    private static void costs() {
        ThreadSlots x = new ThreadSlots(2, 0);
        int before = 0;
        for (int n : new int[] {20, 0, 1, 19, 19, 20}) {
            Check.same("cost " + n, x.cost(n), before);
            before = n;
        }
        Check.noArgument("cost 21", () -> x.cost(21));
        Check.noArgument("cost -1", () -> x.cost(-1));
        Check.same("still", x.cost(0), 20);
    }

    /** Promise 4: "(What is going on goes on as it began.)" */
    private static void costGoesOnAsItBegan() {
        for (int told : new int[] {0, 1, 2, 4, 20}) {
            ThreadSlots x = Check.allReady(2);
            x.cost(3);
            Check.same("begun at 3", Check.goers(x, 2), "0.");
            x.cost(told);
            Check.same("then " + told + " is told", Check.goers(x, 3), "..1");
            Check.same("the next one at " + told, Check.goers(x, told + 1), ".".repeat(told) + "0");
        }
    }

    /** Promise 5: "A thread is ready or not: whether it was." */
    private static void readyOrNot() {
        ThreadSlots x = new ThreadSlots(16, 0);
        for (int t : new int[] {0, 15}) {
            Check.same("was not", x.ready(t, false), false);
            Check.same("was not again", x.ready(t, true), false);
            Check.same("was", x.ready(t, true), true);
            Check.same("was again", x.ready(t, false), true);
        }
        Check.noIndex("ready 16", () -> x.ready(16, true));
        Check.noIndex("ready -1", () -> x.ready(-1, true));
    }

    /** Promise 5: "(Its waiting stays.)" */
    private static void waitingStays() {
        ThreadSlots x = Check.allReady(2);
        x.rank(0, 1);
        x.run(3);
        x.ready(1, false);
        Check.same("told not ready", x.thread(1, 0), 3);
        x.run(10);
        Check.same("not ready for 10 cycles", x.thread(1, 0), 3);
        x.ready(1, true);
        Check.same("ready again", x.thread(1, 0), 3);
        x.ready(1, true);
        x.bound(4);
        Check.same("it counts on from 3", Check.goers(x, 3), "010");
    }

    /** Promise 6: "the one before", "not 0 .. 15" */
    private static void ranks() {
        ThreadSlots x = new ThreadSlots(16, 0);
        for (int t = 0; t < 16; t++) {
            Check.same("at first", x.rank(t, t), 0);
            Check.same("the one before", x.rank(t, 15 - t), t);
        }
        Check.noArgument("rank 16", () -> x.rank(15, 16));
        Check.noArgument("rank -1", () -> x.rank(15, -1));
        Check.noIndex("rank of 16", () -> x.rank(16, 16));
        Check.noIndex("rank of -1", () -> x.rank(-1, 0));
        Check.same("still", x.rank(15, 1), 0);
    }

    /** Promise 7: "A thread sleeps until a cycle: the cycle before", "not 0 .. 1000000" */
    private static void sleeps() {
        ThreadSlots x = new ThreadSlots(2, 0);
        int before = 0;
        for (int until : new int[] {1, 1000000, 999999, 2, 0, 1000000}) {
            Check.same("sleep " + until, x.sleep(1, until), before);
            before = until;
        }
        Check.noArgument("sleep 1000001", () -> x.sleep(1, 1000001));
        Check.noArgument("sleep -1", () -> x.sleep(1, -1));
        Check.noIndex("sleep of 2", () -> x.sleep(2, 1000001));
        Check.noIndex("sleep of -1", () -> x.sleep(-1, 1));
        Check.same("still", x.sleep(1, 0), 1000000);
        Check.same("not of the other one", x.sleep(0, 0), 0);
    }

    /** Promise 7: "(0: it did not sleep)" */
    private static void didNotSleep() {
        ThreadSlots x = Check.allReady(2);
        x.sleep(0, 3);
        x.sleep(1, 3);
        x.ready(1, false);
        x.run(2);
        Check.same("one cycle before its end it sleeps", x.sleep(0, 3), 3);
        x.run(1);
        Check.same("in its end's cycle it woke", x.sleep(0, 4), 0);
        Check.same("and so did one that is not ready", x.sleep(1, 4), 0);
    }

    /** Promise 7: "(0: it sleeps no more)" */
    private static void sleepsNoMore() {
        ThreadSlots x = Check.allReady(1);
        x.sleep(0, 1000000);
        x.run(3);
        x.sleep(0, 0);
        Check.same("no sleep's cycle", x.thread(0, 4), 0);
        Check.same("it goes in the very next cycle", x.cycle(), 0);
    }

    /** Promise 7: "1000000", slept to its end */
    private static void longestSleep() {
        ThreadSlots x = Check.allReady(1);
        x.sleep(0, 1000000);
        int gone = 0;
        for (int i = 0; i < 499; i++) {
            gone += x.run(2000);
        }
        gone += x.run(1999);
        Check.same("cycles", x.count(0), 999999);
        Check.same("asleep in all of them", gone, 0);
        Check.same("still asleep", x.thread(0, 4), 1000000);
        Check.same("cycle 1000000", x.cycle(), 0);
        Check.same("awake", x.thread(0, 4), 0);
    }

    /** Promise 8: "A miss of a thread: how many it has." */
    private static void misses() {
        ThreadSlots x = new ThreadSlots(16, 0);
        for (int i = 1; i <= 400; i++) {
            Check.same("miss " + i, x.miss(15), i);
        }
        Check.same("of another", x.miss(0), 1);
        Check.noIndex("miss of 16", () -> x.miss(16));
        Check.noIndex("miss of -1", () -> x.miss(-1));
        Check.same("told", x.thread(15, 3), 400);
    }

    /** Promise 9: "the thread that goes, or NONE" */
    private static void cycleWithoutGoer() {
        ThreadSlots x = new ThreadSlots(2, 0);
        Check.same("idle", x.cycle(), ThreadSlots.NONE);
        x.ready(1, true);
        Check.same("one goes", x.cycle(), 1);
        x.ready(0, true);
        x.cost(1);
        Check.same("busy", x.cycle(), ThreadSlots.NONE);
        Check.same("thread 0 goes", x.cycle(), 0);
    }

    /** Promise 10: "So many cycles (1 .. 2000)", "when n is none of these" */
    private static void runOfOneAndOf2000() {
        ThreadSlots x = Check.allReady(2);
        Check.same("run 1", x.run(1), 1);
        Check.same("1 cycle", x.count(0), 1);
        Check.same("run 2000", x.run(2000), 2000);
        Check.same("2001 cycles", x.count(0), 2001);
        Check.noArgument("run 0", () -> x.run(0));
        Check.noArgument("run 2001", () -> x.run(2001));
        Check.noArgument("run -1", () -> x.run(-1));
        Check.same("no cycle more", x.count(0), 2001);
    }

    /** Promise 10: "how many of them had one that went" */
    private static void runCountsGoersAlone() {
        ThreadSlots x = new ThreadSlots(2, 0);
        Check.same("idle ones", x.run(7), 0);
        x.ready(0, true);
        x.sleep(0, 10);
        Check.same("two idle ones of 5", x.run(5), 3);
        x.ready(1, true);
        x.cost(2);
        Check.same("two busy ones of 3", x.run(3), 1);
        Check.same("busy ones alone", x.run(2), 0);
        Check.same("one that thread 0 goes in", x.run(1), 1);
    }

    /** Promise 11: "the one before", "when n is not 0 .. 32" */
    private static void parts() {
        ThreadSlots x = new ThreadSlots(16, 0);
        for (int q = 0; q < 8; q++) {
            for (int t = 0; t < 16; t += 15) {
                Check.same("at first", x.part(q, t, q + t), 32);
                Check.same("the one before", x.part(q, t, 32), q + t);
                Check.same("32 is one too", x.part(q, t, 0), 32);
                Check.same("so is 0", x.part(q, t, 31), 0);
            }
        }
        Check.noArgument("part 33", () -> x.part(7, 15, 33));
        Check.noArgument("part -1", () -> x.part(7, 15, -1));
        Check.noIndex("part of thread 16", () -> x.part(7, 16, 1));
        Check.noIndex("part of NONE", () -> x.part(7, ThreadSlots.NONE, 1));
        Check.noIndex("part of queue 8", () -> x.part(8, 15, 1));
        Check.noIndex("part of queue -1", () -> x.part(-1, 15, 1));
        Check.same("still", x.part(7, 15, 1), 31);
    }

    /** Promise 11: "(What is there stays.)" */
    private static void whatIsThereStays() {
        ThreadSlots x = new ThreadSlots(2, 0);
        for (int i = 0; i < 3; i++) {
            x.put(0, 1, i);
        }
        x.part(0, 1, 0);
        Check.same("all are there", x.count(7), 3);
        Check.same("the last one", x.entry(0, 2, 1), 2);
        Check.same("none comes", x.put(0, 1, 9), -1);
        Check.same("the first leaves", x.take(0, 1), 0);
        x.part(0, 1, 2);
        Check.same("two of two", x.put(0, 1, 9), -1);
        x.part(0, 1, 3);
        Check.same("two of three", x.put(0, 1, 9), 3);
    }

    /** Promise 12: "An entry of a thread comes behind the others: how many it has in the queue then" */
    private static void putBehindTheOthers() {
        ThreadSlots x = new ThreadSlots(3, 0);
        Check.same("the first into an empty queue", x.put(0, 2, LEAST), 1);
        Check.same("of another thread", x.put(0, 0, MOST), 1);
        Check.same("the second", x.put(0, 2, 0), 2);
        Check.same("of another queue", x.put(7, 2, -1), 1);
        Check.same("the second is the last", x.entry(0, 2, 1), 0);
        Check.same("the first is the first", x.entry(0, 0, 1), LEAST);
        Check.same("the greatest number", x.entry(0, 1, 1), MOST);
        Check.same("a number that is NONE", x.take(7, 2), -1);
    }

    /** Promise 12: "NONE, when its part is full" */
    private static void putIntoFullPart() {
        ThreadSlots x = new ThreadSlots(2, 0);
        x.part(0, 0, 1);
        Check.same("one", x.put(0, 0, 5), 1);
        Check.same("full", x.put(0, 0, 6), -1);
        Check.same("still one", x.count(7), 1);
        Check.same("the other's part is not", x.put(0, 1, 7), 1);
        Check.same("its one leaves", x.take(0, 0), 5);
        Check.same("one again", x.put(0, 0, 8), 1);
        x.part(1, 0, 0);
        Check.same("a part of 0 is full at once", x.put(1, 0, 5), -1);
    }

    /** Promise 12: "or the queue" */
    private static void putIntoFullQueue() {
        ThreadSlots x = new ThreadSlots(3, 0);
        for (int i = 0; i < 32; i++) {
            Check.same("entry " + i, x.put(7, i % 2, i), i / 2 + 1);
        }
        for (int t = 0; t < 3; t++) {
            Check.same("full for " + t, x.put(7, t, 99), -1);
        }
        Check.same("32 in all", x.count(7), 32);
        Check.same("the last entry is the old one", x.entry(7, 31, 1), 31);
        Check.same("one leaves", x.take(7, 1), 1);
        Check.same("room for one of any", x.put(7, 2, 99), 1);
        Check.same("full again", x.put(7, 2, 99), -1);
    }

    /** Promise 13: "The first entry of a thread .. leaves a queue: its number." */
    private static void takeOfThread() {
        ThreadSlots x = new ThreadSlots(3, 0);
        for (int i = 0; i < 32; i++) {
            x.put(0, i % 3, i);
        }
        Check.same("the first of 2", x.take(0, 2), 2);
        Check.same("the first of 0", x.take(0, 0), 0);
        Check.same("the one behind it is the first now", x.entry(0, 0, 1), 1);
        Check.same("and then that of 0", x.entry(0, 1, 1), 3);
        for (int i = 5; i < 32; i += 3) {
            Check.same("the next of 2", x.take(0, 2), i);
        }
        Check.noState("no more of 2", () -> x.take(0, 2));
        Check.same("the others are there", x.count(7), 21);
        Check.same("the last of them", x.entry(0, 20, 1), 31);
    }

    /** Promise 13: "(or with NONE of any)" */
    private static void takeOfAny() {
        ThreadSlots x = new ThreadSlots(3, 0);
        for (int i = 0; i < 32; i++) {
            x.put(0, 2 - i % 3, i);
        }
        for (int i = 0; i < 32; i++) {
            Check.same("in order", x.take(0, ThreadSlots.NONE), i);
        }
        Check.same("empty", x.count(7), 0);
        Check.same("and used again", x.put(0, 1, 77), 1);
        Check.same("from its start", x.entry(0, 0, 1), 77);
    }

    /** Promise 13: "IndexOutOfBoundsException, when there is no such thread (and it is not NONE)" */
    private static void takeOfNoThread() {
        ThreadSlots x = new ThreadSlots(3, 0);
        x.put(0, 0, 5);
        for (int t : new int[] {LEAST, -2, 3, 4, 16, MOST}) {
            Check.noIndex("take of " + t, () -> x.take(0, t));
            Check.noIndex("take of " + t + " of an empty queue", () -> x.take(1, t));
        }
        Check.noIndex("take of queue 8", () -> x.take(8, ThreadSlots.NONE));
        Check.noIndex("take of queue -1", () -> x.take(-1, ThreadSlots.NONE));
        Check.same("it is there", x.take(0, ThreadSlots.NONE), 5);
    }

    /** Promise 13: "IllegalStateException, when there is no such entry" */
    private static void takeWithoutEntry() {
        ThreadSlots x = new ThreadSlots(2, 0);
        Check.noState("of any of an empty queue", () -> x.take(0, ThreadSlots.NONE));
        Check.noState("of 0 of an empty queue", () -> x.take(7, 0));
        x.put(0, 1, 5);
        Check.noState("of one that has none", () -> x.take(0, 0));
        Check.noState("of another queue", () -> x.take(1, 1));
        x.take(0, 1);
        Check.noState("of a queue that is empty again", () -> x.take(0, 1));
        Check.noState("of any of it", () -> x.take(0, ThreadSlots.NONE));
        for (int i = 0; i < 32; i++) {
            x.put(2, 1, i);
        }
        Check.noState("of one that has none in a full queue", () -> x.take(2, 0));
    }

    /** Promise 14: "Of entry k of a queue the thread (what 0), the number (1)." */
    private static void entries() {
        ThreadSlots x = new ThreadSlots(16, 0);
        for (int i = 0; i < 32; i++) {
            x.put(7, 15 - i % 16, -i);
        }
        for (int k = 0; k < 32; k++) {
            Check.same("the thread of " + k, x.entry(7, k, 0), 15 - k % 16);
            Check.same("the number of " + k, x.entry(7, k, 1), -k);
        }
        Check.noIndex("entry 32 of a full queue", () -> x.entry(7, 32, 0));
    }

    /** Promise 14: "IndexOutOfBoundsException, also when there is no such entry or what." */
    private static void entryThatIsNotThere() {
        ThreadSlots x = new ThreadSlots(2, 0);
        Check.noIndex("entry 0 of an empty queue", () -> x.entry(0, 0, 0));
        x.put(0, 1, 5);
        x.put(0, 1, 6);
        Check.same("entry 1", x.entry(0, 1, 1), 6);
        for (int k : new int[] {LEAST, -1, 2, 31, 32, MOST}) {
            Check.noIndex("entry " + k, () -> x.entry(0, k, 1));
        }
        for (int what : new int[] {LEAST, -1, 2, 3, MOST}) {
            Check.noIndex("what " + what, () -> x.entry(0, 1, what));
        }
        for (int q : new int[] {LEAST, -1, 8, MOST}) {
            Check.noIndex("queue " + q, () -> x.entry(q, 0, 0));
        }
        x.take(0, 1);
        Check.same("the second is the first", x.entry(0, 0, 1), 6);
        Check.noIndex("and there is no second", () -> x.entry(0, 1, 1));
    }

    /** Promise 15: "(of thread 0, when none went yet)" */
    private static void setBeforeAnyWent() {
        ThreadSlots x = new ThreadSlots(2, 0);
        x.run(3);
        x.ready(1, true);
        Check.same("of thread 0, though 1 is ready", x.set(0, MOST), 0);
        Check.same("there", x.register(0, 0), MOST);
        Check.same("not there", x.register(1, 0), 0);
        x.cycle();
        Check.same("thread 1 went", x.set(0, 6), 0);
        Check.same("thread 0 keeps it", x.register(0, 0), MOST);
    }

    /** Promise 15: "Register k of the core's thread .. is another number: the one before." */
    private static void setOfTheLastOne() {
        ThreadSlots x = Check.allReady(2);
        x.ready(0, false);
        x.cycle();
        Check.same("at first", x.set(15, LEAST), 0);
        Check.same("the one before", x.set(15, -1), LEAST);
        x.ready(1, false);
        x.cycle();
        Check.same("an idle cycle keeps the core's thread", x.set(15, 8), -1);
        x.ready(0, true);
        x.cost(2);
        x.run(2);
        Check.same("and so do busy ones", x.set(15, 9), 8);
        x.cycle();
        Check.same("until the next one goes", x.set(15, 10), 0);
        Check.same("thread 1 keeps its own", x.register(1, 15), 9);
    }

    /** Promise 15: "IndexOutOfBoundsException, when there is no such register." */
    private static void setWithoutRegister() {
        ThreadSlots x = new ThreadSlots(2, 0);
        Check.same("the first", x.set(0, 1), 0);
        Check.same("the last", x.set(15, 1), 0);
        for (int k : new int[] {LEAST, -1, 16, 17, MOST}) {
            Check.noIndex("set " + k, () -> x.set(k, 1));
        }
    }

    /** Promise 16: "Register k of a thread. IndexOutOfBoundsException, also when there is no such register." */
    private static void registers() {
        ThreadSlots x = Check.allReady(2);
        x.run(2);
        x.set(0, 5);
        x.set(15, 6);
        Check.same("the first", x.register(1, 0), 5);
        Check.same("the last", x.register(1, 15), 6);
        Check.same("of the other thread", x.register(0, 15), 0);
        for (int k : new int[] {LEAST, -1, 16, 17, MOST}) {
            Check.noIndex("register " + k, () -> x.register(1, k));
        }
        for (int t : new int[] {LEAST, -1, 2, 15, 16, MOST}) {
            Check.noIndex("register of " + t, () -> x.register(t, 0));
        }
    }

    /** Promise 17: "how long it waits (what 0) .. IndexOutOfBoundsException, also for another what." */
    private static void threadReadings() {
        ThreadSlots x = Check.allReady(2);
        x.cost(2);
        x.run(5);
        x.miss(1);
        x.sleep(1, 1000000);
        int[] due = {1, 3, 1, 1, 1000000, 1};
        for (int what = 0; what < 6; what++) {
            Check.same("what " + what, x.thread(1, what), due[what]);
        }
        for (int what : new int[] {LEAST, -1, 6, 7, MOST}) {
            Check.noIndex("what " + what, () -> x.thread(1, what));
        }
        for (int t : new int[] {LEAST, -1, 2, 15, 16, MOST}) {
            Check.noIndex("thread " + t, () -> x.thread(t, 0));
        }
    }

    /** Promise 17: "the longest it ever did (1)" */
    private static void longestWaiting() {
        ThreadSlots x = Check.allReady(2);
        x.rank(0, 1);
        x.run(3);
        Check.same("while it waits", x.thread(1, 1), 3);
        x.bound(1);
        x.cycle();
        Check.same("when it went", x.thread(1, 1), 3);
        x.bound(2);
        x.run(2);
        Check.same("a shorter one", x.thread(1, 1), 3);
        Check.same("waits 2", x.thread(1, 0), 2);
        x.bound(0);
        x.run(1);
        Check.same("one as long", x.thread(1, 1), 3);
        x.run(1);
        Check.same("a longer one", x.thread(1, 1), 4);
    }

    /** Promise 17: "its sleep's cycle (4; 0 without, and when it is over, also of one that is not ready)" */
    private static void sleepIsOverOfOneNotReady() {
        ThreadSlots x = new ThreadSlots(2, 0);
        x.ready(0, true);
        Check.same("without", x.thread(0, 4), 0);
        x.sleep(0, 5);
        x.sleep(1, 5);
        Check.same("told", x.thread(0, 4), 5);
        x.run(4);
        Check.same("in the cycle before", x.thread(0, 4), 5);
        Check.same("of one that is not ready", x.thread(1, 4), 5);
        x.run(1);
        Check.same("in its cycle", x.thread(0, 4), 0);
        Check.same("of one that is not ready", x.thread(1, 4), 0);
    }

    /** Promise 17: "how many times the core began to change over to it, at a cost (5)" */
    private static void changesBegun() {
        ThreadSlots x = Check.allReady(2);
        x.run(3);
        Check.same("without a cost", x.thread(1, 5), 0);
        x.cost(3);
        x.run(1);
        Check.same("begun in this cycle", x.thread(1, 5), 1);
        x.run(2);
        Check.same("still the same", x.thread(1, 5), 1);
        x.run(1);
        Check.same("it went", x.thread(1, 5), 1);
        Check.same("none to the first ever", x.thread(0, 5), 0);
        x.run(8);
        Check.same("another one", x.thread(1, 5), 2);
        Check.same("one to 0", x.thread(0, 5), 1);
    }

    /** Promise 18: "(1; 1 when none went)" */
    private static void shareWhenNoneWent() {
        ThreadSlots x = new ThreadSlots(16, 0);
        x.run(2000);
        for (int t = 0; t < 16; t++) {
            Check.same("above of " + t, x.share(t, 0), 0);
            Check.same("below of " + t, x.share(t, 1), 1);
        }
    }

    /** Promise 18: "The share of a thread of all cycles in which one went, reduced" */
    private static void shareReduced() {
        for (int first = 0; first <= 12; first++) {
            for (int second = first == 0 ? 1 : 0; second <= 12; second++) {
                checkShare(first, second);
            }
        }
        ThreadSlots x = Check.allReady(1);
        x.run(1);
        for (int what : new int[] {LEAST, -1, 2, 3, MOST}) {
            Check.noIndex("what " + what, () -> x.share(0, what));
        }
        for (int t : new int[] {LEAST, -1, 1, 15, 16, MOST}) {
            Check.noIndex("share of " + t, () -> x.share(t, 0));
        }
    }

    private static void checkShare(int first, int second) {
        ThreadSlots x = new ThreadSlots(2, 0);
        goAlone(x, 0, first);
        x.run(5);
        x.cost(3);
        goAlone(x, 1, second);
        int gone = x.thread(1, 2);
        int all = first + gone;
        int divisor = BigInteger.valueOf(gone).gcd(BigInteger.valueOf(all)).intValue();
        Check.same("above of " + gone + " of " + all, x.share(1, 0), gone / divisor);
        Check.same("below of " + gone + " of " + all, x.share(1, 1), all / divisor);
    }

    private static void goAlone(ThreadSlots x, int t, int cycles) {
        x.ready(t, true);
        if (cycles > 0) {
            x.run(cycles);
        }
        x.ready(t, false);
    }

    /** Promise 18: exact, also with as many cycles as 500 runs have. */
    private static void shareOfManyCycles() {
        ThreadSlots x = new ThreadSlots(2, 0);
        x.ready(0, true);
        for (int i = 0; i < 249; i++) {
            x.run(2000);
        }
        x.run(1999);
        x.ready(0, false);
        x.ready(1, true);
        for (int i = 0; i < 250; i++) {
            x.run(2000);
        }
        Check.same("above", x.share(0, 0), 499999);
        Check.same("below", x.share(0, 1), 999999);
        x.ready(1, false);
        x.ready(0, true);
        x.run(1);
        Check.same("a half: above", x.share(0, 0), 1);
        Check.same("a half: below", x.share(1, 1), 2);
    }

    /** Promise 19: "Cycles (0), cycles in which one went (1), idle ones (2), busy ones (3), N (4) .." */
    private static void counts() {
        ThreadSlots x = new ThreadSlots(16, 0);
        x.run(4);
        x.ready(15, true);
        x.run(3);
        x.ready(0, true);
        x.cost(2);
        x.run(1);
        x.put(0, 0, 1);
        x.put(7, 15, 1);
        int[] begun = {8, 3, 4, 1, 16, 15, 0, 2};
        for (int what = 0; what < 8; what++) {
            Check.same("while the core changes over: " + what, x.count(what), begun[what]);
        }
        x.run(2);
        x.take(7, 15);
        int[] gone = {10, 4, 4, 2, 16, 0, -1, 1};
        for (int what = 0; what < 8; what++) {
            Check.same("behind it: " + what, x.count(what), gone[what]);
        }
        x.ready(0, false);
        x.ready(15, false);
        x.run(1);
        int[] idle = {11, 4, 5, 2, 16, 0, -1, 1};
        for (int what = 0; what < 8; what++) {
            Check.same("idle: " + what, x.count(what), idle[what]);
        }
    }

    /** Promise 19: "the one that went last (5; NONE), the one that the core changes over to (6; NONE)" */
    private static void countOfNone() {
        ThreadSlots x = new ThreadSlots(2, 0);
        x.cost(2);
        x.run(3);
        Check.same("none went", x.count(5), ThreadSlots.NONE);
        Check.same("none to change over to", x.count(6), ThreadSlots.NONE);
        x.ready(0, true);
        x.cycle();
        Check.same("0 went", x.count(5), 0);
        Check.same("the first ever is no change", x.count(6), ThreadSlots.NONE);
        x.ready(1, true);
        x.cycle();
        Check.same("still 0", x.count(5), 0);
        Check.same("to 1", x.count(6), 1);
        x.run(2);
        Check.same("1 went", x.count(5), 1);
        Check.same("to none", x.count(6), ThreadSlots.NONE);
    }

    /** Promise 19: "NONE for another what." */
    private static void countOfAnotherWhat() {
        ThreadSlots x = Check.allReady(2);
        x.run(3);
        for (int what : new int[] {LEAST, -2, -1, 8, 9, MOST}) {
            Check.same("count " + what, x.count(what), ThreadSlots.NONE);
        }
    }
}
