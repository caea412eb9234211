/** What the tests share: answers are compared, and the end tells whether one was wrong. */
final class Check {
    interface Call {
        Object answer();
    }

    private static int wrong = 0;

    private Check() {
    }

    static void same(String what, Object got, Object want) {
        if (!want.equals(got)) {
            wrong++;
            System.out.println(what + " answered " + got + ", due is " + want);
        }
    }

    /** The exact class: one below it would be an exception of the machine. */
    static void fails(String what, Class<?> want, Call call) {
        same(what, outcome(call), want.getSimpleName());
    }

    static void noIndex(String what, Call call) {
        fails(what, IndexOutOfBoundsException.class, call);
    }

    static void noArgument(String what, Call call) {
        fails(what, IllegalArgumentException.class, call);
    }

    static void noState(String what, Call call) {
        fails(what, IllegalStateException.class, call);
    }

    static Object outcome(Call call) {
        try {
            return call.answer();
        } catch (RuntimeException e) {
            return e.getClass().getSimpleName();
        }
    }

    /** The goers of the next cycles, '.' for none: "0.1". */
    static String goers(ThreadSlots x, int cycles) {
        StringBuilder text = new StringBuilder();
        for (int i = 0; i < cycles; i++) {
            int goer = x.cycle();
            text.append(goer == ThreadSlots.NONE ? "." : Integer.toHexString(goer));
        }
        return text.toString();
    }

    /** A new object with so many threads, all of them ready. */
    static ThreadSlots allReady(int threads) {
        ThreadSlots x = new ThreadSlots(threads, 0);
        for (int t = 0; t < threads; t++) {
            x.ready(t, true);
        }
        return x;
    }

    static void end(String name) {
        System.out.println(name + (wrong == 0 ? ": all answers are as due" : ": " + wrong + " answers are not as due"));
        if (wrong != 0) {
            System.exit(1);
        }
    }
}
