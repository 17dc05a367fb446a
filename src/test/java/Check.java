import java.util.function.Consumer;
import java.util.function.Supplier;

/** Counts the answers that are not as due; a test ends with finish(). */
final class Check {
    static final Class<IllegalArgumentException> ARGUMENT = IllegalArgumentException.class;
    static final Class<java.util.NoSuchElementException> MESSAGE = java.util.NoSuchElementException.class;
    static final Class<IllegalStateException> STATE = IllegalStateException.class;
    static final Class<UnsupportedOperationException> SAFETY = UnsupportedOperationException.class;

    private static int wrong;

    private Check() {
    }

    static void due(String what, double got, double want) {
        if (got != want) {
            report(what + " answered " + got + ", due is " + want);
        }
    }

    static void dueText(String what, String got, String want) {
        if (!got.equals(want)) {
            report(what + " answered " + got + ", due is " + want);
        }
    }

    /** The call throws just this exception. */
    static void ends(String what, Class<?> kind, Runnable call) {
        dueText(what, answer(() -> {
            call.run();
            return "nothing thrown";
        }), kind.getSimpleName());
    }

    /** The call throws just this exception, and what the object answers later is as if it had not been made. */
    static void refuses(String what, Class<?> kind, Supplier<TrainGuard> made, Consumer<TrainGuard> call) {
        TrainGuard refused = made.get();
        ends(what, kind, () -> call.accept(refused));
        dueText(what + ": what is left", Probe.trace(refused), Probe.trace(made.get()));
    }

    static String answer(Supplier<Object> call) {
        try {
            return String.valueOf(call.get());
        } catch (RuntimeException e) {
            return e.getClass().getSimpleName();
        }
    }

    /** What of answers for 0, 1, .. */
    static void dueOf(String what, TrainGuard x, int train, double... dues) {
        for (int i = 0; i < dues.length; i++) {
            due(what + ": of(" + train + ", " + i + ")", x.of(train, i), dues[i]);
        }
    }

    static void finish() {
        if (wrong != 0) {
            System.out.println(wrong + " answers are not as due");
            System.exit(1);
        }
    }

    private static void report(String line) {
        wrong++;
        System.out.println(line);
    }
}
