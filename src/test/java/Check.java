import java.util.NoSuchElementException;

/** Compares answers, and prints those that are not due. */
final class Check {
    /** A call that may throw. */
    interface Call {
        void run();
    }

    static final Class<?> BOUNDS = IndexOutOfBoundsException.class;
    static final Class<?> ARGUMENT = IllegalArgumentException.class;
    static final Class<?> STATE = IllegalStateException.class;
    static final Class<?> UNSUPPORTED = UnsupportedOperationException.class;
    static final Class<?> NO_ELEMENT = NoSuchElementException.class;
    static final Class<?> ARITHMETIC = ArithmeticException.class;

    private static int compared = 0;
    private static int wrong = 0;

    private Check() { }

    static void is(String what, Object got, Object due) {
        compared++;
        if (!got.equals(due)) {
            wrong++;
            System.out.println(what + " answered " + got + ", due is " + due);
        }
    }

    /** The exception is of just this class. */
    static void fails(String what, Class<?> due, Call call) {
        compared++;
        try {
            call.run();
        } catch (RuntimeException e) {
            if (e.getClass() == due) {
                return;
            }
            System.out.println(what + " threw " + e.getClass().getName() + ", due is " + due.getName());
            wrong++;
            return;
        }
        System.out.println(what + " threw nothing, due is " + due.getName());
        wrong++;
    }

    static void end(String name) {
        System.out.println(name + ": " + compared + " answers, " + wrong + " wrong");
        if (wrong > 0) {
            System.exit(1);
        }
    }
}
