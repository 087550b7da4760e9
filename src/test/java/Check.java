/** Counts and tells the answers that are not the due ones. */
final class Check {
    /** A call whose answer, or exception, is looked at. */
    interface Call {
        long answer();
    }

    private static int wrong = 0;

    private Check() {
    }

    static void same(String call, long got, long due) {
        if (got != due) {
            wrong++;
            System.out.println(call + " answered " + got + ", due is " + due);
        }
    }

    /** The class must be just this one: the machine's own exceptions are kinds of it, and are not due. */
    static void fails(String call, Class<? extends RuntimeException> due, Call made) {
        try {
            long got = made.answer();
            wrong++;
            System.out.println(call + " answered " + got + ", due is " + due.getSimpleName());
        } catch (RuntimeException thrown) {
            if (thrown.getClass() != due) {
                wrong++;
                System.out.println(call + " threw " + thrown + ", due is " + due.getSimpleName());
            }
        }
    }

    static void that(String fact, boolean holds) {
        if (!holds) {
            wrong++;
            System.out.println("not so: " + fact);
        }
    }

    static int wrongSoFar() {
        return wrong;
    }

    static void end() {
        if (wrong != 0) {
            System.out.println(wrong + " answers are not as due");
            System.exit(1);
        }
    }
}
