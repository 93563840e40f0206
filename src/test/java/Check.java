import java.util.NoSuchElementException;
import java.util.function.Consumer;
import java.util.function.Supplier;

/** Compares answers, and prints those that are not due. */
final class Check {
    /** A call that may throw. */
    interface Call {
        void run();
    }

    static final Class<?> BOUNDS = IndexOutOfBoundsException.class;
    static final Class<?> ARGUMENT = IllegalArgumentException.class;
    static final Class<?> STATE = IllegalStateException.class;
    static final Class<?> UNSUPPORTED = UnsupportedOperationException.class;
    static final Class<?> NO_ELEMENT = NoSuchElementException.class;
    static final Class<?> ARITHMETIC = ArithmeticException.class;

    private static int compared = 0;
    private static int wrong = 0;
    private static int sentences = 0;
    private static String sentence = "";

    private Check() { }

    /** Runs the test of one sentence of the document, and names the sentence where an answer is wrong. */
    static void sentence(String quote, Call test) {
        int before = compared;
        sentence = "[" + quote + "] ";
        sentences++;
        try {
            test.run();
        } catch (RuntimeException e) {
            tellWrong("the test was ended by " + e);
        }
        if (compared == before) {
            tellWrong("nothing was compared");
        }
        sentence = "";
    }

    static void is(String what, Object got, Object due) {
        compared++;
        if (!got.equals(due)) {
            tellWrong(what + " answered " + got + ", due is " + due);
        }
    }

    /** The exception is of just this class. */
    static void fails(String what, Class<?> due, Call call) {
        compared++;
        try {
            call.run();
        } catch (RuntimeException e) {
            if (e.getClass() != due) {
                tellWrong(what + " threw " + e.getClass().getName() + ", due is " + due.getName());
            }
            return;
        }
        tellWrong(what + " threw nothing, due is " + due.getName());
    }

    /** Each call throws nothing on a new mine. */
    @SafeVarargs
    static void works(String what, Supplier<Minestrata> make, Consumer<Minestrata>... calls) {
        for (int i = 0; i < calls.length; i++) {
            compared++;
            Minestrata m = make.get();
            try {
                calls[i].accept(m);
            } catch (RuntimeException e) {
                tellWrong(what + ", call " + (i + 1) + " threw " + e);
            }
        }
    }

    /** Each call throws just this exception on a new mine, of which nothing that can be asked is then changed. */
    @SafeVarargs
    static void failsInVain(String what, Class<?> due, Supplier<Minestrata> make, Consumer<Minestrata>... calls) {
        for (int i = 0; i < calls.length; i++) {
            Minestrata m = make.get();
            Consumer<Minestrata> call = calls[i];
            String before = Snapshot.of(m);
            fails(what + ", call " + (i + 1), due, () -> call.accept(m));
            is("the mine after " + what + ", call " + (i + 1), Snapshot.of(m), before);
        }
    }

    static void end(String name) {
        String quoted = sentences > 0 ? sentences + " sentences, " : "";
        System.out.println(name + ": " + quoted + compared + " answers, " + wrong + " wrong");
        if (wrong > 0) {
            System.exit(1);
        }
    }

    private static void tellWrong(String what) {
        wrong++;
        System.out.println(sentence + what);
    }
}
