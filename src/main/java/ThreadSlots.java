/**
 * Threads of one core that take turns: four rules of choosing, ranks, a bound on waiting, what
 * changing over costs, queues that are shared or parted, sleep, banks of registers, shares as
 * exact fractions.
 */
public final class ThreadSlots {
    /** Nothing there. */
    public static final int NONE = -1;

    private static final int MOST_THREADS = 16;
    private static final int REGISTERS = 16;
    private static final int QUEUES = 8;
    private static final int ROOM = 32;

    private static final int BY_TURNS = 0;
    private static final int BY_COUNT = 1;
    private static final int BY_MISSES = 2;
    private static final int BY_SEED = 3;

    private static final int MOST_BOUND = 1000;
    private static final int MOST_COST = 20;
    private static final int MOST_RANK = 15;
    private static final int MOST_SLEEP = 1000000;
    private static final int MOST_CYCLES_OF_A_RUN = 2000;

    private static final int LOWEST_31_BITS = 0x7fffffff;

    // Euclid's way needs under 50 rounds for any two ints.
    private static final int MOST_ROUNDS_OF_EUCLID = 64;

    private final Strand[] strands;
    private final Line[] lines;

    private int ruleNow;
    private int boundNow;
    private int costNow;
    private int x;

    private int lastGone = NONE;
    // Stays behind the change over too, until this thread goes or another one is chosen.
    private int changingTo = NONE;
    private int changeCyclesLeft;

    private int cycles;
    private int goneCycles;
    private int idleCycles;
    private int busyCycles;

    public ThreadSlots(int threads, int seed) {
        // Below the least int, threads - 1 wraps by 2^32, which leaves the rest by 16 as it is.
        strands = new Strand[1 + Math.floorMod(threads - 1, MOST_THREADS)];
        for (int t = 0; t < strands.length; t++) {
            strands[t] = new Strand();
        }
        lines = new Line[QUEUES];
        for (int q = 0; q < lines.length; q++) {
            lines[q] = new Line();
        }
        x = seed & LOWEST_31_BITS;
    }

    public int rule(int kind) throws IllegalArgumentException {
        checkArgument(kind, BY_TURNS, BY_SEED);
        int before = ruleNow;
        ruleNow = kind;
        return before;
    }

    public int bound(int b) throws IllegalArgumentException {
        checkArgument(b, 0, MOST_BOUND);
        int before = boundNow;
        boundNow = b;
        return before;
    }

    public int cost(int n) throws IllegalArgumentException {
        checkArgument(n, 0, MOST_COST);
        int before = costNow;
        costNow = n;
        return before;
    }

    public boolean ready(int thread, boolean on) throws IndexOutOfBoundsException {
        Strand strand = strandOf(thread);
        boolean before = strand.isReady;
        strand.isReady = on;
        return before;
    }

    public int rank(int thread, int rank) throws IndexOutOfBoundsException, IllegalArgumentException {
        Strand strand = strandOf(thread);
        checkArgument(rank, 0, MOST_RANK);
        int before = strand.rankNow;
        strand.rankNow = rank;
        return before;
    }

    public int sleep(int thread, int until) throws IndexOutOfBoundsException, IllegalArgumentException {
        Strand strand = strandOf(thread);
        checkArgument(until, 0, MOST_SLEEP);
        int before = strand.sleepsUntil;
        strand.sleepsUntil = until;
        return before;
    }

    public int miss(int thread) throws IndexOutOfBoundsException {
        Strand strand = strandOf(thread);
        strand.misses++;
        return strand.misses;
    }

    public int cycle() {
        return playCycle();
    }

    public int run(int n) throws IllegalArgumentException {
        checkArgument(n, 1, MOST_CYCLES_OF_A_RUN);
        int gone = 0;
        for (int i = 0; i < n; i++) {
            if (playCycle() != NONE) {
                gone++;
            }
        }
        return gone;
    }

    public int part(int queue, int thread, int n) throws IndexOutOfBoundsException, IllegalArgumentException {
        Line line = lineOf(queue);
        checkIndex(thread, strands.length);
        checkArgument(n, 0, ROOM);
        int before = line.parts[thread];
        line.parts[thread] = n;
        return before;
    }

    public int put(int queue, int thread, int number) throws IndexOutOfBoundsException {
        Line line = lineOf(queue);
        checkIndex(thread, strands.length);
        int held = line.entriesOf(thread);
        if (held >= line.parts[thread] || line.size >= ROOM) {
            return NONE;
        }
        line.append(thread, number);
        return held + 1;
    }

    public int take(int queue, int thread) throws IndexOutOfBoundsException, IllegalStateException {
        Line line = lineOf(queue);
        if (thread != NONE) {
            checkIndex(thread, strands.length);
        }
        int k = line.firstOf(thread);
        if (k < 0 || k >= line.size) {
            throw new IllegalStateException("no such entry");
        }
        int number = line.numbers[k];
        line.close(k);
        return number;
    }

    public int entry(int queue, int k, int what) throws IndexOutOfBoundsException {
        Line line = lineOf(queue);
        checkIndex(k, line.size);
        checkIndex(what, 2);
        return what == 0 ? line.owners[k] : line.numbers[k];
    }

    public int set(int k, int v) throws IndexOutOfBoundsException {
        checkIndex(k, REGISTERS);
        Strand strand = strandOf(lastGone == NONE ? 0 : lastGone);
        int before = strand.bank[k];
        strand.bank[k] = v;
        return before;
    }

    public int register(int thread, int k) throws IndexOutOfBoundsException {
        Strand strand = strandOf(thread);
        checkIndex(k, REGISTERS);
        return strand.bank[k];
    }

    public int thread(int thread, int what) throws IndexOutOfBoundsException {
        Strand strand = strandOf(thread);
        switch (what) {
            case 0:
                return strand.waiting;
            case 1:
                return strand.longestWaiting;
            case 2:
                return strand.goneCycles;
            case 3:
                return strand.misses;
            case 4:
                return strand.sleepsUntil;
            case 5:
                return strand.changesBegun;
            default:
                throw new IndexOutOfBoundsException("no such what");
        }
    }

    public int share(int thread, int what) throws IndexOutOfBoundsException {
        Strand strand = strandOf(thread);
        checkIndex(what, 2);
        int divisor = greatestDivisor(strand.goneCycles, goneCycles);
        if (divisor == 0) {
            return what == 0 ? 0 : 1;
        }
        return (what == 0 ? strand.goneCycles : goneCycles) / divisor;
    }

    public int count(int what) {
        switch (what) {
            case 0:
                return cycles;
            case 1:
                return goneCycles;
            case 2:
                return idleCycles;
            case 3:
                return busyCycles;
            case 4:
                return strands.length;
            case 5:
                return lastGone;
            case 6:
                return changingTo;
            case 7:
                return entriesInAll();
            default:
                return NONE;
        }
    }

    private int playCycle() {
        cycles++;
        seeWhoCanGo();
        int goer = findGoer();
        letOthersWait(goer);
        if (goer != NONE) {
            letGo(goer);
        }
        return goer;
    }

    private void seeWhoCanGo() {
        for (int t = 0; t < strands.length; t++) {
            Strand strand = strands[t];
            if (strand.sleepsUntil <= cycles) {
                strand.sleepsUntil = 0;
            }
            strand.canGo = strand.isReady && strand.sleepsUntil == 0;
        }
    }

    private int findGoer() {
        if (changeCyclesLeft > 0) {
            changeCyclesLeft--;
            busyCycles++;
            return NONE;
        }
        if (changingTo != NONE && strands[changingTo].canGo) {
            return changingTo;
        }
        int chosen = choose();
        if (chosen == NONE) {
            idleCycles++;
            return NONE;
        }
        if (chosen == lastGone || lastGone == NONE || costNow == 0) {
            return chosen;
        }
        beginChangeTo(chosen);
        return NONE;
    }

    private void beginChangeTo(int thread) {
        changingTo = thread;
        // The cycle in which it begins is the first one of its cost.
        changeCyclesLeft = costNow - 1;
        strands[thread].changesBegun++;
        busyCycles++;
    }

    private void letOthersWait(int goer) {
        for (int t = 0; t < strands.length; t++) {
            Strand strand = strands[t];
            if (strand.canGo && t != goer) {
                strand.waiting++;
                strand.longestWaiting = Math.max(strand.longestWaiting, strand.waiting);
            }
        }
    }

    private void letGo(int thread) {
        Strand strand = strands[thread];
        strand.waiting = 0;
        strand.goneCycles++;
        goneCycles++;
        lastGone = thread;
        changingTo = NONE;
    }

    private int choose() {
        int overdue = findOverdue();
        if (overdue != NONE) {
            return overdue;
        }
        int top = greatestRank();
        if (top == NONE) {
            return NONE;
        }
        switch (ruleNow) {
            case BY_COUNT:
            case BY_MISSES:
                return findFewest(top);
            case BY_SEED:
                return findBySeed(top);
            default:
                return findNextInTurn(top);
        }
    }

    private int findOverdue() {
        if (boundNow == 0) {
            return NONE;
        }
        int best = NONE;
        int most = boundNow - 1;
        for (int t = 0; t < strands.length; t++) {
            Strand strand = strands[t];
            if (strand.canGo && strand.waiting > most) {
                best = t;
                most = strand.waiting;
            }
        }
        return best;
    }

    private int greatestRank() {
        int top = NONE;
        for (int t = 0; t < strands.length; t++) {
            Strand strand = strands[t];
            if (strand.canGo && strand.rankNow > top) {
                top = strand.rankNow;
            }
        }
        return top;
    }

    private boolean isCandidate(Strand strand, int top) {
        return strand.canGo && strand.rankNow == top;
    }

    private int findNextInTurn(int top) {
        int lowest = NONE;
        for (int t = 0; t < strands.length; t++) {
            if (isCandidate(strands[t], top)) {
                if (t > lastGone) {
                    return t;
                }
                if (lowest == NONE) {
                    lowest = t;
                }
            }
        }
        return lowest;
    }

    private int findFewest(int top) {
        int best = NONE;
        int fewest = 0;
        for (int t = 0; t < strands.length; t++) {
            Strand strand = strands[t];
            int has = ruleNow == BY_COUNT ? strand.goneCycles : strand.misses;
            if (isCandidate(strand, top) && (best == NONE || has < fewest)) {
                best = t;
                fewest = has;
            }
        }
        return best;
    }

    private int findBySeed(int top) {
        int candidates = 0;
        for (int t = 0; t < strands.length; t++) {
            if (isCandidate(strands[t], top)) {
                candidates++;
            }
        }
        if (candidates == 0) {
            return NONE;
        }
        x = (1103515245 * x + 12345) & LOWEST_31_BITS;
        int toSkip = x / 65536 % candidates;
        for (int t = 0; t < strands.length; t++) {
            if (isCandidate(strands[t], top)) {
                if (toSkip == 0) {
                    return t;
                }
                toSkip--;
            }
        }
        return NONE;
    }

    private int entriesInAll() {
        int sum = 0;
        for (int q = 0; q < lines.length; q++) {
            sum += lines[q].size;
        }
        return sum;
    }

    private Strand strandOf(int thread) {
        checkIndex(thread, strands.length);
        return strands[thread];
    }

    private Line lineOf(int queue) {
        checkIndex(queue, lines.length);
        return lines[queue];
    }

    private static void checkIndex(int index, int length) {
        if (index < 0 || index >= length) {
            throw new IndexOutOfBoundsException("no such thread, queue, entry, register or what");
        }
    }

    private static void checkArgument(int value, int least, int most) {
        if (value < least || value > most) {
            throw new IllegalArgumentException("a number out of its range");
        }
    }

    private static int greatestDivisor(int one, int other) {
        int a = one;
        int b = other;
        for (int i = 0; i < MOST_ROUNDS_OF_EUCLID && b != 0; i++) {
            int rest = a % b;
            a = b;
            b = rest;
        }
        return a;
    }

    /** A thread of the core (Thread is a name of the library). */
    private static final class Strand {
        private final int[] bank = new int[REGISTERS];
        private boolean isReady;
        private int rankNow;
        private int sleepsUntil;
        private int misses;
        private int waiting;
        private int longestWaiting;
        private int goneCycles;
        private int changesBegun;
        // Of the cycle that is being played; seen once, so that its choosing and waiting agree.
        private boolean canGo;
    }

    /** A queue: its entries stand in order from 0 on, without gaps. */
    private static final class Line {
        private final int[] owners = new int[ROOM];
        private final int[] numbers = new int[ROOM];
        private final int[] parts = new int[MOST_THREADS];
        private int size;

        private Line() {
            for (int t = 0; t < parts.length; t++) {
                parts[t] = ROOM;
            }
        }

        private int entriesOf(int thread) {
            int held = 0;
            for (int k = 0; k < size; k++) {
                if (owners[k] == thread) {
                    held++;
                }
            }
            return held;
        }

        private int firstOf(int thread) {
            for (int k = 0; k < size; k++) {
                if (thread == NONE || owners[k] == thread) {
                    return k;
                }
            }
            return NONE;
        }

        private void append(int thread, int number) {
            if (size < ROOM) {
                owners[size] = thread;
                numbers[size] = number;
                size++;
            }
        }

        private void close(int gap) {
            for (int k = gap; k < size - 1; k++) {
                owners[k] = owners[k + 1];
                numbers[k] = numbers[k + 1];
            }
            size--;
        }
    }
}
