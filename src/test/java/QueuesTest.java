/** Promises 11 to 14: part, put, take and entry. */
final class QueuesTest {
    public static void main(String[] args) {
        part();
        put();
        putIntoFullQueue();
        take();
        takeInOrder();
        entry();
        Check.end("QueuesTest");
    }

    private static String entries(ThreadSlots x, int queue, int size) {
        StringBuilder text = new StringBuilder();
        for (int k = 0; k < size; k++) {
            text.append(x.entry(queue, k, 0)).append(':').append(x.entry(queue, k, 1)).append(' ');
        }
        Check.noIndex("behind the last entry", () -> x.entry(queue, size, 0));
        return text.toString().trim();
    }

    private static void part() {
        ThreadSlots x = new ThreadSlots(3, 0);
        Check.same("at first", x.part(7, 2, 5), 32);
        Check.same("the one before", x.part(7, 2, 32), 5);
        Check.same("of another thread", x.part(7, 1, 0), 32);
        Check.same("of another queue", x.part(6, 1, 0), 32);
        Check.noIndex("queue 8", () -> x.part(8, 0, 1));
        Check.noIndex("queue -1", () -> x.part(-1, 0, 1));
        Check.noIndex("thread 3", () -> x.part(0, 3, 1));
        Check.noIndex("thread -1", () -> x.part(0, -1, 1));
        Check.noIndex("the thread before the part", () -> x.part(0, 3, 33));
        Check.noIndex("the queue before the part", () -> x.part(8, 0, -1));
        Check.noArgument("33", () -> x.part(0, 0, 33));
        Check.noArgument("-1", () -> x.part(0, 0, -1));
        Check.same("not told", x.part(0, 0, 32), 32);

        for (int i = 0; i < 4; i++) {
            x.put(0, 0, i);
        }
        Check.same("below what is there", x.part(0, 0, 2), 32);
        Check.same("what is there stays", entries(x, 0, 4), "0:0 0:1 0:2 0:3");
        Check.same("full", x.put(0, 0, 9), -1);
        x.take(0, 0);
        x.take(0, 0);
        Check.same("still full", x.put(0, 0, 9), -1);
        x.take(0, 0);
        Check.same("room again", x.put(0, 0, 9), 2);
        Check.same("entries", entries(x, 0, 2), "0:3 0:9");
    }

    private static void put() {
        ThreadSlots x = new ThreadSlots(3, 0);
        Check.same("the first of 0", x.put(0, 0, Integer.MIN_VALUE), 1);
        Check.same("the first of 1", x.put(0, 1, -1), 1);
        Check.same("the second of 0", x.put(0, 0, Integer.MAX_VALUE), 2);
        Check.same("of another queue", x.put(7, 0, 4), 1);
        Check.same("entries", entries(x, 0, 3), "0:-2147483648 1:-1 0:2147483647");
        x.part(0, 1, 1);
        Check.same("its part is full", x.put(0, 1, 5), -1);
        Check.same("the part of another is not", x.put(0, 2, 6), 1);
        Check.same("nor that of another queue", x.put(7, 1, 7), 1);
        x.part(3, 0, 0);
        Check.same("no part", x.put(3, 0, 1), -1);
        Check.noIndex("queue 8", () -> x.put(8, 0, 1));
        Check.noIndex("queue -1", () -> x.put(-1, 0, 1));
        Check.noIndex("thread 3", () -> x.put(0, 3, 1));
        Check.noIndex("thread NONE", () -> x.put(0, -1, 1));
        Check.same("in all", x.count(7), 6);
    }

    private static void putIntoFullQueue() {
        ThreadSlots x = new ThreadSlots(2, 0);
        for (int i = 1; i <= 32; i++) {
            Check.same("put " + i, x.put(5, 1, i), i);
        }
        Check.same("the part and the queue are full", x.put(5, 1, 33), -1);
        Check.same("the queue is full", x.put(5, 0, 33), -1);
        Check.noState("none of 0 in a full queue", () -> x.take(5, 0));
        Check.same("in all", x.count(7), 32);
        Check.same("another queue has room", x.put(4, 0, 33), 1);
        Check.same("the first leaves", x.take(5, -1), 1);
        Check.same("room again", x.put(5, 0, 34), 1);
        Check.same("behind the others", x.entry(5, 31, 1), 34);
        Check.same("full again", x.put(5, 1, 35), -1);
        for (int i = 2; i <= 32; i++) {
            Check.same("take " + i, x.take(5, ThreadSlots.NONE), i);
        }
        Check.same("the last", x.take(5, ThreadSlots.NONE), 34);
        Check.noState("empty", () -> x.take(5, ThreadSlots.NONE));
    }

    private static void take() {
        ThreadSlots x = new ThreadSlots(3, 0);
        x.put(1, 0, 10);
        x.put(1, 1, 11);
        x.put(1, 0, 12);
        x.put(1, 1, 13);
        Check.noState("none of 2", () -> x.take(1, 2));
        Check.noState("none in queue 0", () -> x.take(0, 1));
        Check.noState("none of any in queue 0", () -> x.take(0, -1));
        Check.noIndex("queue 8", () -> x.take(8, 0));
        Check.noIndex("queue 8, of any", () -> x.take(8, -1));
        Check.noIndex("queue -1", () -> x.take(-1, 0));
        Check.noIndex("thread 3", () -> x.take(1, 3));
        Check.noIndex("thread 3 before the state", () -> x.take(0, 3));
        Check.noIndex("thread -2", () -> x.take(1, -2));
        Check.same("the first of 1", x.take(1, 1), 11);
        Check.same("the others stay", entries(x, 1, 3), "0:10 0:12 1:13");
        Check.same("the second of 1", x.take(1, 1), 13);
        Check.noState("no more of 1", () -> x.take(1, 1));
        Check.same("the others stay", entries(x, 1, 2), "0:10 0:12");
        Check.same("its part has room", x.put(1, 1, 14), 1);
    }

    private static void takeInOrder() {
        ThreadSlots x = new ThreadSlots(3, 0);
        x.put(2, 2, 20);
        x.put(2, 0, 21);
        x.put(2, 1, 22);
        Check.same("in order", x.take(2, -1), 20);
        Check.same("in order", x.take(2, -1), 21);
        Check.same("left", entries(x, 2, 1), "1:22");
        Check.same("in all", x.count(7), 1);
    }

    private static void entry() {
        ThreadSlots x = new ThreadSlots(3, 0);
        Check.noIndex("of an empty queue", () -> x.entry(0, 0, 0));
        x.put(0, 2, 77);
        Check.same("the thread", x.entry(0, 0, 0), 2);
        Check.same("the number", x.entry(0, 0, 1), 77);
        Check.noIndex("entry 1", () -> x.entry(0, 1, 0));
        Check.noIndex("entry -1", () -> x.entry(0, -1, 0));
        Check.noIndex("entry 32", () -> x.entry(0, 32, 0));
        Check.noIndex("what 2", () -> x.entry(0, 0, 2));
        Check.noIndex("what -1", () -> x.entry(0, 0, -1));
        Check.noIndex("queue 8", () -> x.entry(8, 0, 0));
        Check.noIndex("queue -1", () -> x.entry(-1, 0, 0));
        x.take(0, 2);
        Check.noIndex("one that left", () -> x.entry(0, 0, 0));
    }
}
