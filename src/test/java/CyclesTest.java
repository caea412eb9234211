/** Promises 9 and 10 with the terms ONE CYCLE and CHOOSING. */
final class CyclesTest {
    public static void main(String[] args) {
        turns();
        fewestGoingCycles();
        fewestMisses();
        seed();
        seedStepsOnlyWhenAsked();
        bound();
        boundBeforeRank();
        waiting();
        cost();
        costGoesOnAsItBegan();
        changeWaitsForItsThread();
        changeIsForgotten();
        sleepWhileChanging();
        run();
        Check.end("CyclesTest");
    }

    private static void turns() {
        ThreadSlots x = Check.allReady(4);
        Check.same("turns from 0 on", Check.goers(x, 6), "012301");
        x.ready(2, false);
        Check.same("round without 2", Check.goers(x, 4), "3013");
        x.ready(2, true);
        x.ready(3, false);
        Check.same("behind one that is not ready", Check.goers(x, 2), "01");
        x.ready(0, false);
        x.ready(2, false);
        Check.same("one alone", Check.goers(x, 2), "11");

        ThreadSlots y = new ThreadSlots(4, 0);
        y.ready(2, true);
        Check.same("the first one ready", Check.goers(y, 1), "2");
        y.ready(2, false);
        Check.same("none", Check.goers(y, 2), "..");
        y.ready(1, true);
        y.ready(3, true);
        Check.same("idle cycles keep the turn", Check.goers(y, 2), "31");
    }

    private static void fewestGoingCycles() {
        ThreadSlots x = Check.allReady(3);
        x.ready(1, false);
        x.run(5);
        x.ready(1, true);
        x.rule(1);
        Check.same("3, 0 and 2 cycles", Check.goers(x, 7), "1112012");
    }

    private static void fewestMisses() {
        ThreadSlots x = Check.allReady(3);
        x.rule(2);
        Check.same("the lowest of equals", Check.goers(x, 2), "00");
        x.miss(0);
        Check.same("the next", Check.goers(x, 2), "11");
        x.miss(1);
        x.miss(1);
        x.miss(2);
        Check.same("0 and 2 have one", Check.goers(x, 2), "00");
        x.miss(0);
        Check.same("2 has one", Check.goers(x, 2), "22");
    }

    private static void seed() {
        for (int threads = 1; threads <= 16; threads++) {
            ThreadSlots x = Check.allReady(threads);
            x.rule(3);
            long value = 0;
            for (int i = 0; i < 20; i++) {
                value = (1103515245L * value + 12345L) % 2147483648L;
                Check.same("seed, cycle " + i + " of " + threads, x.cycle(), (int) (value / 65536 % threads));
            }
        }
        ThreadSlots y = Check.allReady(16);
        for (int t = 0; t < 16; t += 2) {
            y.ready(t, false);
        }
        y.rank(15, 1);
        y.rank(13, 1);
        y.rank(11, 1);
        y.rank(1, 1);
        y.rule(3);
        Check.same("of those with the greatest rank, by number", Check.goers(y, 4), "111b");
    }

    private static void seedStepsOnlyWhenAsked() {
        ThreadSlots x = Check.allReady(16);
        for (int t = 1; t < 16; t++) {
            x.ready(t, false);
        }
        x.rule(3);
        Check.same("asked with one alone", Check.goers(x, 1), "0");
        x.ready(0, false);
        Check.same("idle", Check.goers(x, 3), "...");
        for (int t = 0; t < 16; t++) {
            x.ready(t, true);
        }
        x.rule(0);
        Check.same("another rule", Check.goers(x, 3), "123");
        x.rule(3);
        x.bound(3);
        Check.same("overdue ones", Check.goers(x, 1), "0");
        x.bound(0);
        Check.same("the second and third answer", Check.goers(x, 2), "c4");
        x.cost(2);
        Check.same("asked once for a change", Check.goers(x, 3), "..5");
    }

    private static void bound() {
        ThreadSlots x = Check.allReady(3);
        x.rule(2);
        x.miss(1);
        x.miss(1);
        x.miss(2);
        x.bound(3);
        Check.same("the lowest of those that waited 3", Check.goers(x, 9), "000120012");
        Check.same("longest of 2", x.thread(2, 1), 4);

        ThreadSlots y = Check.allReady(3);
        y.rule(2);
        y.run(2);
        y.ready(1, false);
        y.run(2);
        y.ready(1, true);
        y.bound(2);
        Check.same("the one that waited most", Check.goers(y, 3), "210");
        y.ready(1, false);
        y.ready(2, false);
        y.run(2);
        y.bound(1);
        Check.same("one that waits, but can not go", Check.goers(y, 2), "00");

        ThreadSlots z = Check.allReady(2);
        z.rank(0, 1);
        z.bound(1);
        Check.same("a bound of 1", Check.goers(z, 5), "01010");
        z.bound(0);
        Check.same("no bound", Check.goers(z, 3), "000");

        ThreadSlots w = Check.allReady(3);
        w.bound(5);
        Check.same("none waited so long", Check.goers(w, 5), "01201");
        w.ready(0, false);
        w.ready(1, false);
        w.ready(2, false);
        Check.same("none can go", Check.goers(w, 2), "..");
    }

    private static void boundBeforeRank() {
        ThreadSlots x = Check.allReady(3);
        x.rank(0, 15);
        x.rank(1, 1);
        x.bound(1000);
        x.run(1000);
        Check.same("1000 of the greatest rank", x.thread(0, 2), 1000);
        Check.same("then the bound", Check.goers(x, 4), "1200");
    }

    private static void waiting() {
        ThreadSlots x = Check.allReady(3);
        x.cycle();
        Check.same("the goer does not wait", x.thread(0, 0), 0);
        Check.same("1 waits", x.thread(1, 0), 1);
        Check.same("2 waits", x.thread(2, 0), 1);
        x.cycle();
        Check.same("1 went", x.thread(1, 0), 0);
        Check.same("its longest", x.thread(1, 1), 1);
        Check.same("2 waits on", x.thread(2, 0), 2);
        x.ready(2, false);
        x.cycle();
        Check.same("one that is not ready does not wait", x.thread(2, 0), 2);
    }

    private static void cost() {
        ThreadSlots x = Check.allReady(2);
        x.cost(2);
        Check.same("the first ever and two changes", Check.goers(x, 7), "0..1..0");
        Check.same("busy", x.count(3), 4);
        Check.same("changes to 1", x.thread(1, 5), 1);
        Check.same("changes to 0", x.thread(0, 5), 1);
        Check.same("0 waited while the core changed over to 1 and back", x.thread(0, 1), 5);
        Check.same("1 waited while the core changed over to it", x.thread(1, 1), 3);
        x.ready(1, false);
        Check.same("no change, no cost", Check.goers(x, 3), "000");
        x.ready(1, true);
        x.cost(0);
        Check.same("without cost", Check.goers(x, 3), "101");
        Check.same("nothing begun without cost", x.thread(1, 5), 1);
        x.cost(1);
        Check.same("a cost of 1", Check.goers(x, 4), ".0.1");
        x.cost(20);
        Check.same("a cost of 20", Check.goers(x, 21), "....................0");
    }

    private static void costGoesOnAsItBegan() {
        ThreadSlots x = Check.allReady(2);
        x.cost(3);
        Check.same("begun", Check.goers(x, 2), "0.");
        x.cost(0);
        Check.same("goes on", Check.goers(x, 4), "..10");
        x.cost(2);
        Check.same("begun", Check.goers(x, 1), ".");
        x.cost(9);
        Check.same("goes on", Check.goers(x, 2), ".1");
    }

    private static void changeWaitsForItsThread() {
        ThreadSlots x = Check.allReady(3);
        x.cost(2);
        Check.same("begun", Check.goers(x, 2), "0.");
        Check.same("to 1", x.count(6), 1);
        x.ready(0, false);
        x.ready(1, false);
        x.ready(2, false);
        Check.same("busy, idle, idle", Check.goers(x, 3), "...");
        Check.same("busy", x.count(3), 2);
        Check.same("idle", x.count(2), 2);
        Check.same("an idle cycle forgets nothing", x.count(6), 1);
        x.ready(0, true);
        x.ready(1, true);
        x.ready(2, true);
        x.rank(2, 5);
        x.bound(1);
        Check.same("goes without being asked anew", Check.goers(x, 1), "1");
        Check.same("no more", x.count(6), -1);
        Check.same("begun once", x.thread(1, 5), 1);
    }

    private static void changeIsForgotten() {
        ThreadSlots x = Check.allReady(3);
        x.cost(2);
        Check.same("begun", Check.goers(x, 3), "0..");
        x.ready(1, false);
        Check.same("another one is chosen, at a cost", Check.goers(x, 1), ".");
        Check.same("to 2", x.count(6), 2);
        x.ready(1, true);
        Check.same("the first one is forgotten", Check.goers(x, 2), ".2");

        ThreadSlots y = Check.allReady(2);
        y.cost(2);
        Check.same("begun", Check.goers(y, 3), "0..");
        y.ready(1, false);
        Check.same("the one that went last goes without cost", Check.goers(y, 1), "0");
        Check.same("forgotten", y.count(6), -1);
        y.ready(1, true);
        Check.same("begun anew", Check.goers(y, 3), "..1");
        Check.same("begun twice", y.thread(1, 5), 2);

        ThreadSlots z = Check.allReady(3);
        z.cost(1);
        Check.same("begun", Check.goers(z, 2), "0.");
        z.ready(1, false);
        z.cost(0);
        Check.same("another one without cost", Check.goers(z, 1), "2");
        Check.same("forgotten too", z.count(6), -1);
    }

    private static void sleepWhileChanging() {
        ThreadSlots x = Check.allReady(2);
        x.cost(4);
        x.sleep(1, 2);
        Check.same("begun", Check.goers(x, 2), "0.");
        x.sleep(1, 4);
        x.sleep(0, 5);
        x.cycle();
        Check.same("a sleeper does not wait", x.thread(1, 0), 1);
        Check.same("asleep", x.thread(1, 4), 4);
        x.cycle();
        Check.same("wakes while the core changes over", x.thread(1, 4), 0);
        Check.same("and waits", x.thread(1, 0), 2);
        x.cycle();
        Check.same("busy", x.count(3), 4);
        Check.same("goes", x.cycle(), 1);

        ThreadSlots y = Check.allReady(2);
        y.cost(1);
        y.sleep(0, 9);
        y.cycle();
        y.sleep(0, 0);
        y.cycle();
        y.sleep(0, 5);
        y.sleep(1, 9);
        Check.same("goes in the first cycle in which it can", Check.goers(y, 3), "..0");
    }

    private static void run() {
        ThreadSlots x = Check.allReady(2);
        Check.same("run 1", x.run(1), 1);
        Check.same("run 2000", x.run(2000), 2000);
        Check.noArgument("run 0", () -> x.run(0));
        Check.noArgument("run 2001", () -> x.run(2001));
        Check.noArgument("run -1", () -> x.run(-1));
        Check.same("cycles", x.count(0), 2001);
        x.cost(3);
        Check.same("run with a cost", x.run(10), 2);
        x.ready(0, false);
        x.ready(1, false);
        Check.same("run with none", x.run(10), 0);
    }
}
