/** Counts answers that are as due and answers that are not. */
final class Check {
    private static int passed = 0;
    private static int failed = 0;

    private Check() {
    }

    interface Call {
        void run();
    }

    static void same(String what, long got, long due) {
        count(got == due, what + " answered " + got + ", due is " + due);
    }

    static void sameDouble(String what, double got, double due) {
        count(got == due, what + " answered " + got + ", due is " + due);
    }

    static void holds(String what, boolean right) {
        count(right, what + " does not hold");
    }

    static void noIndex(String what, Call call) {
        fails(what, IndexOutOfBoundsException.class, call);
    }

    static void noRange(String what, Call call) {
        fails(what, IllegalArgumentException.class, call);
    }

    static void noState(String what, Call call) {
        fails(what, IllegalStateException.class, call);
    }

    static void answers(String what, Call call) {
        Class<?> got = null;
        try {
            call.run();
        } catch (RuntimeException thrown) {
            got = thrown.getClass();
        }
        count(got == null, what + " threw " + got + ", due is an answer");
    }

    /** Asks for the very class: the machine's own index exceptions are classes below it. */
    private static void fails(String what, Class<? extends RuntimeException> due, Call call) {
        Class<?> got = null;
        try {
            call.run();
        } catch (RuntimeException thrown) {
            got = thrown.getClass();
        }
        count(got == due, what + " threw " + got + ", due is " + due);
    }

    private static void count(boolean right, String complaint) {
        if (right) {
            passed++;
        } else {
            failed++;
            System.out.println(complaint);
        }
    }

    static void end(String name) {
        System.out.println(name + ": " + passed + " passed, " + failed + " failed");
        if (failed > 0 || passed == 0) {
            System.exit(1);
        }
    }
}
