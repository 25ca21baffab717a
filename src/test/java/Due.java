/** Counts and prints the answers that are not as due. */
final class Due {
    /** A call that is to be watched for what it throws. */
    interface Call {
        long answer();
    }

    private int wrong = 0;

    void is(String call, long got, long want) {
        if (got != want) {
            tell(call + " answered " + got + ", due is " + want);
        }
    }

    void accepted(String call, Call c) {
        throwing(call, c, null);
    }

    void outOfBounds(String call, Call c) {
        throwing(call, c, IndexOutOfBoundsException.class);
    }

    void illegal(String call, Call c) {
        throwing(call, c, IllegalArgumentException.class);
    }

    /** The machine's own exceptions (ArrayIndexOutOfBounds..) are below the due ones: the class must be the very one. */
    private void throwing(String call, Call c, Class<?> want) {
        Class<?> thrown = null;
        try {
            c.answer();
        } catch (RuntimeException e) {
            thrown = e.getClass();
        }
        if (thrown != want) {
            tell(call + " throws " + named(thrown) + ", due is " + named(want));
        }
    }

    private static String named(Class<?> thrown) {
        return thrown == null ? "nothing" : thrown.getName();
    }

    void tell(String what) {
        wrong++;
        if (wrong <= 50) {
            System.out.println(what);
        }
    }

    void end() {
        System.out.println(wrong == 0 ? "all answers are as due" : wrong + " answers are not as due");
        if (wrong != 0) {
            System.exit(1);
        }
    }
}
