/** What the tests share: each wrong answer is printed, and end() ends the program with 1 if there was one. */
final class Check {
    private static final long LONGEST_MILLIS = 300_000;

    private static int wrong = 0;
    private static int asked = 0;

    private Check() {
    }

    interface Call {
        void make();
    }

    /** A call that doesn't end must fail the run too. */
    static void begin() {
        Thread watch = new Thread(() -> {
            try {
                Thread.sleep(LONGEST_MILLIS);
            } catch (InterruptedException e) {
                return;
            }
            System.out.println("the test did not end in time");
            Runtime.getRuntime().halt(1);
        });
        watch.setDaemon(true);
        watch.start();
    }

    static void same(String call, long got, long due) {
        asked++;
        if (got != due) {
            wrong++;
            System.out.println(call + " answered " + got + ", due is " + due);
        }
    }

    static void yes(String call, boolean got) {
        same(call, got ? 1 : 0, 1);
    }

    static void no(String call, boolean got) {
        same(call, got ? 1 : 0, 0);
    }

    /** The class itself is asked for, so that a subclass which the machine throws is seen as wrong. */
    static void throwsIt(String call, Class<? extends RuntimeException> due, Call made) {
        asked++;
        Class<?> got = null;
        try {
            made.make();
        } catch (RuntimeException e) {
            got = e.getClass();
        }
        if (got != due) {
            wrong++;
            System.out.println(call + " threw " + (got == null ? "nothing" : got.getName())
                    + ", due is " + due.getName());
        }
    }

    static void index(String call, Call made) {
        throwsIt(call, IndexOutOfBoundsException.class, made);
    }

    static void argument(String call, Call made) {
        throwsIt(call, IllegalArgumentException.class, made);
    }

    static void state(String call, Call made) {
        throwsIt(call, IllegalStateException.class, made);
    }

    static void right() {
        asked++;
    }

    static void fails(String what) {
        asked++;
        wrong++;
        System.out.println(what);
    }

    static void end() {
        System.out.println(wrong == 0 ? asked + " answers are as due" : wrong + " answers are not as due");
        if (wrong != 0) {
            System.exit(1);
        }
    }
}
