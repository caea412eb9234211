import java.util.Random;

/** Long runs of drawn calls: every answer is the model's, every exception of the very class. */
final class ModelTest {
    private static final int RUNS = 3000;
    private static final int CALLS = 512;
    private static final String[] NAMES = {
        "rule", "bound", "cost", "ready", "ready", "rank", "sleep", "miss", "cycle", "cycle", "cycle", "run", "part",
        "put", "put", "put", "take", "entry", "set", "register", "thread", "thread", "share", "count"};
    private static final int[] EDGES = {
        Integer.MIN_VALUE, -2, -1, 0, 1, 15, 16, 20, 21, 31, 32, 33, 1000, 1001, 2000, 2001, 1000000, 1000001,
        Integer.MAX_VALUE};

    public static void main(String[] args) {
        for (int run = 0; run < RUNS; run++) {
            // The run's number is the seed, so that a run that fails can be played again.
            Random random = new Random(run);
            playRun(run, random);
        }
        Check.end("ModelTest");
    }

    private static void playRun(int run, Random random) {
        int threads = run % 4 == 0 ? random.nextInt() : 1 + random.nextInt(6);
        int seed = random.nextInt();
        ThreadSlots x = new ThreadSlots(threads, seed);
        Model model = new Model(threads, seed);
        int n = model.answer("count", 4, 0, 0);
        // The document leaves open what is told, before the next cycle, of a sleep until one that is past.
        boolean toldToPast = false;
        for (int i = 0; i < CALLS; i++) {
            String name = toldToPast ? "cycle" : NAMES[random.nextInt(NAMES.length)];
            int a = draw(random, first(name, n));
            int cycles = model.answer("count", 0, 0, 0);
            int b = draw(random, second(name, n, cycles));
            toldToPast = name.equals("sleep") && b > 0 && b <= cycles;
            int c = draw(random, name.equals("part") ? 8 : name.equals("entry") ? 2 : 1000);
            if (name.equals("run") && run % 50 != 0) {
                a = Math.min(a, 60);
            }
            int a1 = a;
            Object got = Check.outcome(() -> call(x, name, a1, b, c));
            Object want = Check.outcome(() -> model.answer(name, a1, b, c));
            Check.same("run " + run + ", call " + i + ": " + name + "(" + a + ", " + b + ", " + c + ")", got, want);
        }
    }

    private static int draw(Random random, int below) {
        return random.nextInt(25) == 0 ? EDGES[random.nextInt(EDGES.length)] : random.nextInt(below);
    }

    private static int first(String name, int n) {
        switch (name) {
            case "rule": return 4;
            case "bound": return 12;
            case "cost": return 5;
            case "run": return 30;
            case "part": case "put": case "take": case "entry": return 2;
            case "set": return 16;
            case "count": return 9;
            default: return n;
        }
    }

    private static int second(String name, int n, int cycles) {
        switch (name) {
            case "ready": return 4;
            case "rank": return 3;
            case "sleep": return cycles + 20;
            case "part": case "put": case "take": return n;
            case "entry": return 20;
            case "register": return 16;
            case "thread": return 6;
            case "share": return 2;
            default: return 1000;
        }
    }

    private static int call(ThreadSlots x, String name, int a, int b, int c) {
        switch (name) {
            case "rule": return x.rule(a);
            case "bound": return x.bound(a);
            case "cost": return x.cost(a);
            case "ready": return x.ready(a, b != 0) ? 1 : 0;
            case "rank": return x.rank(a, b);
            case "sleep": return x.sleep(a, b);
            case "miss": return x.miss(a);
            case "cycle": return x.cycle();
            case "run": return x.run(a);
            case "part": return x.part(a, b, c);
            case "put": return x.put(a, b, c);
            case "take": return x.take(a, b);
            case "entry": return x.entry(a, b, c);
            case "set": return x.set(a, b);
            case "register": return x.register(a, b);
            case "thread": return x.thread(a, b);
            case "share": return x.share(a, b);
            default: return x.count(a);
        }
    }
}
