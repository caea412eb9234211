/** Each sentence of the document's terms that names an edge, with a test of its own below it. */
final class TermEdgesTest {
    public static void main(String[] args) {
        threadsFromZero();
        cyclesFromOne();
        sleepsCycle();
        sleepIsOver();
        idleWhenNoneCan();
        firstEverGoes();
        lastOneGoes();
        costOfN();
        busyForNobody();
        goesWithoutBeingAsked();
        goesInTheFirstCycleInWhichItCan();
        otherIsChosenAsEver();
        idleForgetsNothing();
        waitsWhileChanging();
        waitingEndsWithGoing();
        boundAboveZero();
        boundOrMore();
        boundOfThoseThatCanGo();
        boundByMostThenLowest();
        greatestRank();
        turnsRound();
        turnsFromZero();
        fewestCyclesLowestNumber();
        fewestMissesLowestNumber();
        seedLowest31Bits();
        seedOfHowMany();
        queuesHaveRoom();
        partedQueue();
        banks();
        Check.end("TermEdgesTest");
    }

    /** "There are N THREADS, numbered from 0." */
    private static void threadsFromZero() {
        for (int n = 1; n <= 16; n++) {
            ThreadSlots x = new ThreadSlots(n, 0);
            x.ready(0, true);
            Check.same("the first of " + n, x.cycle(), 0);
            x.ready(0, false);
            x.ready(n - 1, true);
            Check.same("the last of " + n, x.cycle(), n - 1);
        }
    }

    /** "CYCLES are numbered from 1." */
    private static void cyclesFromOne() {
        ThreadSlots x = Check.allReady(1);
        x.sleep(0, 1);
        Check.same("asleep until cycle 1, before it", x.thread(0, 4), 1);
        Check.same("cycle 1 is the first one", x.cycle(), 0);
        ThreadSlots y = Check.allReady(1);
        y.sleep(0, 2);
        Check.same("cycle 2 is the second one", Check.goers(y, 2), ".0");
    }

    /** "CAN GO in a cycle when it is ready, and its sleep's cycle is not after this one" */
    private static void sleepsCycle() {
        for (int until = 1; until <= 6; until++) {
            ThreadSlots x = Check.allReady(1);
            x.sleep(0, until);
            Check.same("until " + until, Check.goers(x, 7), ".".repeat(until - 1) + "0".repeat(8 - until));
            ThreadSlots y = Check.allReady(1);
            y.ready(0, false);
            y.sleep(0, until);
            Check.same("until " + until + ", not ready", Check.goers(y, 7), ".......");
        }
        ThreadSlots z = Check.allReady(2);
        z.run(6);
        z.sleep(0, 6);
        Check.same("until a cycle that is past", z.cycle(), 0);
        z.sleep(1, 8);
        Check.same("until the next cycle", z.cycle(), 1);
        z.sleep(0, 10);
        Check.same("until the one behind it", Check.goers(z, 2), "10");
    }

    /** "(then it wakes: its sleep is over)" */
    private static void sleepIsOver() {
        ThreadSlots x = Check.allReady(2);
        x.cost(9);
        x.cycle();
        x.sleep(0, 4);
        x.run(2);
        Check.same("one cycle before it", x.thread(0, 4), 4);
        x.cycle();
        Check.same("over, while the core changes over", x.thread(0, 4), 0);
        ThreadSlots y = Check.allReady(1);
        y.sleep(0, 3);
        y.run(2);
        Check.same("idle, and one cycle before it", y.thread(0, 4), 3);
        y.cycle();
        Check.same("over", y.sleep(0, 9), 0);
    }

    /** "NONE can: the cycle is IDLE." */
    private static void idleWhenNoneCan() {
        ThreadSlots x = new ThreadSlots(16, 0);
        Check.same("none is ready", x.cycle(), -1);
        Check.same("idle", x.count(2), 1);
        x.ready(15, true);
        x.sleep(15, 3);
        Check.same("the ready one sleeps", x.cycle(), -1);
        Check.same("idle too", x.count(2), 2);
        Check.same("one can", x.cycle(), 15);
        Check.same("not idle", x.count(2), 2);
        Check.same("never busy", x.count(3), 0);
        for (int rule = 0; rule < 4; rule++) {
            ThreadSlots y = new ThreadSlots(2, 0);
            y.rule(rule);
            y.bound(1);
            y.cost(5);
            Check.same("none by rule " + rule, Check.goers(y, 3), "...");
            Check.same("idle by rule " + rule, y.count(2), 3);
        }
    }

    /** "The one chosen GOES in this cycle, if it is .. the first ever" */
    private static void firstEverGoes() {
        for (int t = 0; t < 16; t += 5) {
            ThreadSlots x = new ThreadSlots(16, 0);
            x.cost(20);
            x.run(3);
            x.ready(t, true);
            Check.same("the first ever at a cost of 20", x.cycle(), t);
            Check.same("not busy", x.count(3), 0);
            Check.same("nothing began", x.thread(t, 5), 0);
        }
    }

    /** "The one chosen GOES in this cycle, if it is the one that went last" */
    private static void lastOneGoes() {
        ThreadSlots x = Check.allReady(3);
        x.cost(20);
        x.rank(1, 1);
        Check.same("the same one at a cost of 20", Check.goers(x, 3), "111");
        x.ready(1, false);
        x.sleep(0, 6);
        x.sleep(2, 6);
        Check.same("idle", Check.goers(x, 2), "..");
        x.ready(1, true);
        Check.same("and behind idle cycles", Check.goers(x, 1), "1");
        Check.same("never busy", x.count(3), 0);
    }

    /** "with a COST of n above 0, the core changes over to it in this cycle and n - 1 more" */
    private static void costOfN() {
        for (int n = 0; n <= 20; n++) {
            ThreadSlots x = Check.allReady(2);
            x.cycle();
            x.cost(n);
            Check.same("a cost of " + n, Check.goers(x, n + 1), ".".repeat(n) + "1");
            Check.same("busy at a cost of " + n, x.count(3), n);
            Check.same("begun at a cost of " + n, x.thread(1, 5), n == 0 ? 0 : 1);
        }
    }

    /** "when the core is CHANGING OVER, it goes on with that (BUSY for nobody)" */
    private static void busyForNobody() {
        ThreadSlots x = Check.allReady(3);
        x.cost(3);
        x.run(2);
        x.ready(0, false);
        x.ready(1, false);
        x.ready(2, false);
        Check.same("goes on when none can go", Check.goers(x, 2), "..");
        Check.same("busy", x.count(3), 3);
        Check.same("not idle", x.count(2), 0);
        Check.same("the one that went last is still it", x.count(5), 0);
        Check.same("no going cycle", x.count(1), 1);
        Check.same("of nobody", x.thread(1, 2), 0);
    }

    /** "behind these it goes without being asked anew" */
    private static void goesWithoutBeingAsked() {
        ThreadSlots x = Check.allReady(3);
        x.cost(2);
        x.run(3);
        x.rank(2, 15);
        Check.same("though another has a greater rank", x.cycle(), 1);

        ThreadSlots y = Check.allReady(3);
        y.cost(2);
        y.run(3);
        y.bound(1);
        y.rule(2);
        y.miss(1);
        Check.same("though others waited as long as the bound", y.cycle(), 1);

        ThreadSlots z = Check.allReady(2);
        z.cost(2);
        z.run(3);
        z.rule(3);
        Check.same("goes", z.cycle(), 1);
        z.cost(0);
        Check.same("x is still the seed", Check.goers(z, 4), "0001");
    }

    /** "in the first cycle in which it can" */
    private static void goesInTheFirstCycleInWhichItCan() {
        ThreadSlots x = Check.allReady(2);
        x.cost(2);
        x.run(3);
        x.ready(0, false);
        x.sleep(1, 6);
        Check.same("asleep until 6", Check.goers(x, 3), "..1");
        Check.same("idle until then", x.count(2), 2);
        Check.same("begun once", x.thread(1, 5), 1);
    }

    /** "in a cycle in which it can not one is chosen as ever (then the change over to the first one is forgotten" */
    private static void otherIsChosenAsEver() {
        ThreadSlots x = Check.allReady(3);
        x.cost(1);
        x.run(2);
        x.ready(1, false);
        x.ready(2, false);
        Check.same("the one that went last goes", x.cycle(), 0);
        Check.same("forgotten", x.count(6), -1);
        x.ready(1, true);
        Check.same("a new change", Check.goers(x, 2), ".1");
        Check.same("begun twice", x.thread(1, 5), 2);

        ThreadSlots y = Check.allReady(3);
        y.cost(1);
        y.run(2);
        y.ready(1, false);
        Check.same("another one at a cost", y.cycle(), -1);
        Check.same("the core changes over to it", y.count(6), 2);
        y.ready(1, true);
        Check.same("the first one is forgotten", y.cycle(), 2);

        ThreadSlots z = Check.allReady(3);
        z.cost(1);
        z.run(2);
        z.ready(1, false);
        z.rank(0, 1);
        z.bound(3);
        Check.same("by rank, then by the bound", Check.goers(z, 5), "0.2.0");
    }

    /** "an idle cycle forgets nothing)" */
    private static void idleForgetsNothing() {
        ThreadSlots x = Check.allReady(2);
        x.cost(1);
        x.run(2);
        x.ready(0, false);
        x.ready(1, false);
        Check.same("idle", x.run(2000), 0);
        Check.same("idle cycles", x.count(2), 2000);
        x.ready(0, true);
        x.ready(1, true);
        x.rank(0, 9);
        Check.same("it goes at once, unasked", x.cycle(), 1);
        Check.same("at no other cost", x.count(3), 1);
    }

    /** "Each thread that can go and does not (also while the core changes over) WAITS in this cycle" */
    private static void waitsWhileChanging() {
        ThreadSlots x = Check.allReady(4);
        x.cycle();
        x.ready(2, false);
        x.sleep(3, 4);
        x.cost(4);
        x.run(4);
        Check.same("the one that went last", x.thread(0, 0), 4);
        Check.same("the one that the core changes over to", x.thread(1, 0), 5);
        Check.same("one that is not ready", x.thread(2, 0), 1);
        Check.same("one that slept for two of them", x.thread(3, 0), 3);
        x.cycle();
        Check.same("0 again when it goes", x.thread(1, 0), 0);
        Check.same("the others wait on", x.thread(0, 0), 5);
    }

    /** "its waiting is one more; it is 0 again when it goes" */
    private static void waitingEndsWithGoing() {
        ThreadSlots x = Check.allReady(2);
        x.rank(0, 1);
        x.run(2000);
        Check.same("2000 cycles", x.thread(1, 0), 2000);
        x.rank(1, 2);
        x.cycle();
        Check.same("0 again", x.thread(1, 0), 0);
        Check.same("the longest stays", x.thread(1, 1), 2000);
        Check.same("the other one waits", x.thread(0, 0), 1);
        x.cycle();
        Check.same("0 stays 0", x.thread(1, 0), 0);
    }

    /** "When a BOUND b above 0 is told" */
    private static void boundAboveZero() {
        ThreadSlots x = Check.allReady(2);
        x.rank(0, 1);
        x.run(2000);
        x.bound(1);
        x.bound(0);
        Check.same("0 is no bound", Check.goers(x, 3), "000");
        x.bound(1);
        Check.same("1 is one", Check.goers(x, 4), "1010");
    }

    /** "and the waiting of some that can go is b or more" */
    private static void boundOrMore() {
        for (int b = 1; b <= 9; b++) {
            ThreadSlots x = Check.allReady(2);
            x.rank(0, 1);
            x.bound(b);
            Check.same("a bound of " + b, Check.goers(x, b + 2), "0".repeat(b) + "10");
            ThreadSlots y = Check.allReady(2);
            y.rank(0, 1);
            y.run(b + 1);
            y.bound(b);
            Check.same("more than a bound of " + b, y.cycle(), 1);
        }
        ThreadSlots z = Check.allReady(2);
        z.rank(0, 1);
        z.bound(1000);
        Check.same("999 are fewer than 1000", z.run(1000) + z.thread(1, 2), 1000);
        Check.same("1000 are not", Check.goers(z, 2), "10");
    }

    /** "some that can go": one that is not ready, or sleeps, is never chosen for its waiting. */
    private static void boundOfThoseThatCanGo() {
        ThreadSlots x = Check.allReady(3);
        x.rank(0, 1);
        x.run(5);
        x.ready(1, false);
        x.sleep(2, 8);
        x.bound(5);
        Check.same("none of them can", Check.goers(x, 2), "00");
        Check.same("2 wakes", Check.goers(x, 2), "20");
        x.ready(1, true);
        Check.same("1 is ready", Check.goers(x, 2), "10");
    }

    /** "of these the one that waited most (the lowest number of several)" */
    private static void boundByMostThenLowest() {
        ThreadSlots x = Check.allReady(4);
        x.rank(0, 1);
        x.run(3);
        x.ready(1, false);
        x.run(1);
        x.ready(1, true);
        x.bound(2);
        Check.same("2 and 3 waited 4, 1 waited 3", Check.goers(x, 4), "2310");
        Check.same("its rank does not help", x.thread(0, 1), 3);
    }

    /** "Else by the greatest RANK (0 at first) of those that can go" */
    private static void greatestRank() {
        ThreadSlots x = Check.allReady(16);
        for (int t = 0; t < 16; t++) {
            x.rank(t, t);
        }
        for (int t = 15; t > 0; t--) {
            Check.same("rank " + t, x.cycle(), t);
            if (t % 2 == 0) {
                x.ready(t, false);
            } else {
                x.sleep(t, 1000000);
            }
        }
        Check.same("rank 0", Check.goers(x, 2), "00");
        for (int rule = 0; rule < 4; rule++) {
            ThreadSlots y = Check.allReady(4);
            y.rule(rule);
            y.rank(2, 15);
            y.rank(1, 14);
            y.miss(2);
            Check.same("before rule " + rule, Check.goers(y, 3), "222");
        }
    }

    /** "0 TURNS: the first one behind the one that went last (by number, round" */
    private static void turnsRound() {
        for (int n = 1; n <= 16; n++) {
            ThreadSlots x = Check.allReady(n);
            for (int i = 0; i < 2 * n + 1; i++) {
                Check.same("turn " + i + " of " + n, x.cycle(), i % n);
            }
        }
        ThreadSlots y = new ThreadSlots(16, 0);
        y.ready(15, true);
        Check.same("the last alone", Check.goers(y, 2), "ff");
        y.ready(14, true);
        Check.same("round to the one before it", Check.goers(y, 3), "efe");
        y.ready(0, true);
        Check.same("behind 15 comes 0", Check.goers(y, 3), "f0e");
    }

    /** "from 0 on at first" */
    private static void turnsFromZero() {
        for (int first = 0; first < 4; first++) {
            ThreadSlots x = new ThreadSlots(4, 0);
            for (int t = first; t < 4; t++) {
                x.ready(t, true);
            }
            Check.same("from " + first + " on", x.cycle(), first);
        }
        ThreadSlots y = new ThreadSlots(2, 0);
        y.run(5);
        y.ready(0, true);
        y.ready(1, true);
        Check.same("idle cycles are no turns", y.cycle(), 0);
    }

    /** "1 COUNT: the one with the fewest going cycles", "the lowest number" */
    private static void fewestCyclesLowestNumber() {
        ThreadSlots x = Check.allReady(3);
        x.rule(1);
        Check.same("0 each at first", Check.goers(x, 6), "012012");
        x.ready(0, false);
        Check.same("2 each", Check.goers(x, 3), "121");
        x.ready(0, true);
        Check.same("2, 4 and 3", Check.goers(x, 5), "00201");
        x.cost(2);
        Check.same("busy cycles are none of its", Check.goers(x, 6), "..2..0");
    }

    /** "2 MISSES: the one with the fewest misses told", "the lowest number" */
    private static void fewestMissesLowestNumber() {
        ThreadSlots x = Check.allReady(3);
        x.rule(2);
        x.miss(0);
        x.miss(1);
        Check.same("2 has none", Check.goers(x, 2), "22");
        x.miss(2);
        Check.same("one each", Check.goers(x, 2), "00");
        x.miss(0);
        Check.same("1 and 2 have one", Check.goers(x, 2), "11");
    }

    /** "x becomes 1103515245 * x + 12345, of that the lowest 31 bits" */
    private static void seedLowest31Bits() {
        int[] seeds = {0, 1, 2, Integer.MAX_VALUE, Integer.MAX_VALUE - 1, 1 << 30, 1946, 65536};
        for (int seed : seeds) {
            ThreadSlots x = new ThreadSlots(16, seed);
            for (int t = 0; t < 16; t++) {
                x.ready(t, true);
            }
            x.rule(3);
            long due = seed;
            for (int i = 0; i < 200; i++) {
                due = (1103515245L * due + 12345L) % 2147483648L;
                Check.same("cycle " + i + " of seed " + seed, x.cycle(), (int) (due / 65536 % 16));
            }
        }
    }

    /** "the one number x / 65536 modulo how many there are (by number)" */
    private static void seedOfHowMany() {
        for (int n = 1; n <= 16; n++) {
            ThreadSlots x = new ThreadSlots(16, 5);
            x.rule(3);
            for (int t = 16 - n; t < 16; t++) {
                x.ready(t, true);
                x.rank(t, 3);
            }
            x.ready(0, true);
            if (n < 15) {
                x.sleep(1, 1000000);
                x.ready(1, true);
                x.rank(1, 4);
            }
            long due = 5;
            for (int i = 0; i < 30; i++) {
                due = (1103515245L * due + 12345L) % 2147483648L;
                Check.same("of " + n + ", cycle " + i, x.cycle(), 16 - n + (int) (due / 65536 % n));
            }
        }
    }

    /** "QUEUES 0 .. 7 have room for 32 entries" */
    private static void queuesHaveRoom() {
        ThreadSlots x = new ThreadSlots(16, 0);
        for (int q = 0; q < 8; q++) {
            for (int i = 0; i < 32; i++) {
                Check.same("entry " + i + " of queue " + q, x.put(q, i % 16, 100 * q + i), i / 16 + 1);
            }
            Check.same("one more in queue " + q, x.put(q, q, 9), -1);
        }
        Check.same("in all", x.count(7), 256);
        for (int q = 0; q < 8; q++) {
            Check.same("the first of queue " + q, x.entry(q, 0, 1), 100 * q);
            Check.same("the last of queue " + q, x.entry(q, 31, 1), 100 * q + 31);
            Check.same("the last of thread 15 but one", x.take(q, 15), 100 * q + 15);
            Check.same("room for one", x.put(q, 0, 7), 3);
            Check.same("and no more", x.put(q, 0, 8), -1);
            Check.same("it is the last one", x.entry(q, 31, 1), 7);
        }
    }

    /** "a thread has at most so many entries in it, as told for it (32 at first)" */
    private static void partedQueue() {
        for (int n = 0; n <= 32; n++) {
            ThreadSlots x = new ThreadSlots(2, 0);
            x.part(3, 1, n);
            for (int i = 1; i <= n; i++) {
                Check.same("part " + n, x.put(3, 1, i), i);
            }
            Check.same("part " + n + " is full", x.put(3, 1, 99), -1);
            Check.same("the other thread's is not", x.put(3, 0, 99), n == 32 ? -1 : 1);
            Check.same("the other queue's is not", x.put(4, 1, 99), 1);
            if (n > 0) {
                Check.same("one leaves", x.take(3, 1), 1);
                Check.same("one comes", x.put(3, 1, 99), n);
            }
        }
    }

    /** "BANKS: each thread has 16 registers; the core sees those of the thread that went last." */
    private static void banks() {
        ThreadSlots x = Check.allReady(16);
        for (int t = 0; t < 16; t++) {
            x.cycle();
            x.set(0, 100 + t);
            x.set(15, 200 + t);
        }
        for (int t = 0; t < 16; t++) {
            Check.same("register 0 of " + t, x.register(t, 0), 100 + t);
            Check.same("register 15 of " + t, x.register(t, 15), 200 + t);
            Check.same("register 1 of " + t, x.register(t, 1), 0);
        }
    }
}
