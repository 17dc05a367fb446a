import java.util.function.Supplier;

/** Writes down all that an object answers, and what it does next, so that hidden state shows too. */
final class Probe {
    private final TrainGuard x;
    private final StringBuilder text = new StringBuilder();

    private Probe(TrainGuard x) {
        this.x = x;
    }

    /** Some 220 calls, so that an object made with few stays below its 512. */
    static String trace(TrainGuard x) {
        Probe probe = new Probe(x);
        probe.readAll();
        for (int t = 0; t < 3; t++) {
            probe.drive(t);
        }
        probe.readAll();
        probe.drainRestrictions();
        probe.note(() -> x.section(50, 60));
        return probe.text.toString();
    }

    private void note(Supplier<Object> call) {
        text.append(Check.answer(call)).append(' ');
    }

    private void readAll() {
        for (int what = 0; what < 6; what++) {
            int w = what;
            note(() -> x.count(w));
        }
        for (int train = 0; train < 3; train++) {
            int t = train;
            note(() -> x.mode(t));
            for (int what = 0; what < 6; what++) {
                int w = what;
                note(() -> x.of(t, w));
            }
        }
        for (int section = 0; section < 10; section++) {
            int s = section;
            note(() -> x.holds(s, 0));
            note(() -> x.holds(s, 1));
        }
    }

    /** Its message shows in take, how many there were in stop, and whether it is wet in how a train in TRIP slows. */
    private void drive(int t) {
        note(() -> x.second(t, 0.5, 1));
        note(() -> x.take(t, 0));
        note(() -> x.start(t));
        note(() -> x.second(t, 0.5, 1));
        note(() -> x.second(t, 1, -1));
        note(() -> x.of(t, 1));
        note(() -> x.stop(t));
        note(() -> x.take(t, 0));
        for (int i = 0; i < 4; i++) {
            note(() -> x.second(t, 0.5, 1));
            note(() -> x.of(t, 3));
        }
        note(() -> x.acknowledge(t));
    }

    private void drainRestrictions() {
        for (int i = 0; i < 6; i++) {
            for (int place = 0; place < 8; place++) {
                double p = place * 25;
                note(() -> x.limit(p));
            }
            note(() -> x.release(0));
        }
    }
}
