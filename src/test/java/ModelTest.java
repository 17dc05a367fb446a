import java.util.Map;
import java.util.Random;
import java.util.TreeMap;
import java.util.function.Supplier;

/** Seeded runs of at most 512 calls, each call made on a TrainGuard and on the model. */
public final class ModelTest {
    private static final int RUNS = 3000;
    private static final int CALLS = 512;
    private static final Map<String, Integer> SEEN = new TreeMap<>();

    private final Random random;
    private final String name;
    private final TrainGuard x = new TrainGuard();
    private final Model model = new Model();
    private final double[] wishes = {1, 1, 1};
    private int calls;

    private ModelTest(int seed) {
        // Random's first numbers are nearly the same for seeds that lie near one another.
        random = new Random(seed * 0x9E3779B97F4A7C15L);
        name = "seed " + seed;
    }

    public static void main(String[] args) {
        for (int seed = 0; seed < RUNS; seed++) {
            new ModelTest(seed).run();
        }
        everyAnswerWasSeen();
        Check.finish();
    }

    /** The runs are worth little if they do not come to every mode and every exception. */
    private static void everyAnswerWasSeen() {
        String[] due = {"acknowledge 1", "acknowledge 4", "acknowledge IllegalStateException", "ask 1",
            "ask IllegalArgumentException", "ask IllegalStateException", "end 0", "end IllegalStateException",
            "restrict 5", "restrict IllegalArgumentException", "restrict IllegalStateException",
            "restrict UnsupportedOperationException", "second 0", "second 1", "second 2", "second 3", "second 4",
            "section 9", "section IllegalArgumentException", "section IllegalStateException", "start 1", "start 2",
            "start IllegalStateException", "take 0", "take 1", "take IllegalStateException",
            "take NoSuchElementException", "take UnsupportedOperationException", "train 2",
            "train IllegalArgumentException", "train IllegalStateException"};
        for (String answer : due) {
            Check.dueText(answer + " was seen", "" + (SEEN.getOrDefault(answer, 0) > 0), "true");
        }
    }

    private void run() {
        build();
        while (calls < CALLS - 30) {
            int train = random.nextInt(trainBound());
            if (random.nextInt(5) == 0) {
                steer(train);
            } else {
                goOn(train);
            }
        }
        for (int train = 0; train < 3; train++) {
            readTrain(train);
        }
        for (int what = 0; what < 6; what++) {
            int w = what;
            same("count", () -> x.count(w), () -> model.count(w));
        }
    }

    private void build() {
        int sections = random.nextInt(8) == 0 ? 11 : 1 + random.nextInt(6);
        for (int i = 0; i < sections; i++) {
            section();
        }
        for (int i = random.nextInt(6); i > 0; i--) {
            restrict();
        }
        for (int i = 1 + random.nextInt(5); i > 0 || (Integer) model.count(2) == 0 && i > -20; i--) {
            train();
        }
    }

    private void goOn(int train) {
        switch (Check.answer(() -> model.mode(train))) {
            case "0" -> setOff(train);
            case "4" -> acknowledge(train);
            case "3" -> {
                drive(train, 1 + random.nextInt(4));
                acknowledge(train);
            }
            default -> drive(train, 1 + random.nextInt(12));
        }
    }

    private void setOff(int train) {
        if (random.nextInt(4) > 0) {
            ask(train);
        }
        start(train);
    }

    private void drive(int train, int seconds) {
        if (random.nextInt(3) == 0) {
            wishes[train % 3] = rarely() ? eighths(-2.25, 1.25) : random.nextInt(3) > 0 ? 1 : eighths(-2, 1);
        }
        double a = wishes[train % 3];
        int slip = rarely() ? 2 : random.nextInt(3) - 1;
        for (int i = 0; i < seconds && calls < CALLS - 30; i++) {
            same("second", () -> x.second(train, a, slip), () -> model.second(train, a, slip));
        }
        readTrain(train);
    }

    private void steer(int train) {
        switch (random.nextInt(16)) {
            case 0, 1 -> start(train);
            case 2, 3, 4 -> ask(train);
            case 5 -> stop(train);
            case 6, 7, 8 -> take(train);
            case 9 -> wet(train);
            case 10 -> acknowledge(train);
            case 11 -> drive(train, 1);
            case 12 -> same("end", () -> x.end(train), () -> model.end(train));
            case 13 -> readLine();
            case 14 -> release();
            default -> build(random.nextInt(3));
        }
    }

    private void build(int what) {
        if (what == 0) {
            section();
        } else if (what == 1) {
            restrict();
        } else {
            train();
        }
    }

    private void section() {
        double length = rarely() ? eighths(49, 51) : random.nextInt(5) == 0 ? eighths(50, 1000) : eighths(50, 150);
        double speed = rarely() ? eighths(0, 61) : random.nextBoolean() ? eighths(1, 12) : eighths(1, 60);
        same("section", () -> x.section(length, speed), () -> model.section(length, speed));
    }

    private void restrict() {
        double from = eighths(rarely() ? -1 : 0, 400);
        double to = from + eighths(rarely() ? -1 : 0, 100);
        double speed = eighths(rarely() ? 0 : 1, 15);
        same("restrict", () -> x.restrict(from, to, speed), () -> model.restrict(from, to, speed));
    }

    private void release() {
        int k = random.nextInt(7) - 1;
        same("release", () -> x.release(k), () -> model.release(k));
    }

    private void train() {
        int section = random.nextInt(rarely() ? 12 : 4) - (rarely() ? 1 : 0);
        double length = rarely() ? eighths(9, 51) : eighths(10, 50);
        double brake = rarely() ? eighths(0, 3) : eighths(0.5, 2);
        same("train", () -> x.train(section, length, brake), () -> model.train(section, length, brake));
    }

    private void ask(int train) {
        int section = model.headOf(train) + random.nextInt(3) - (random.nextInt(8) == 0 ? 1 : 0);
        same("ask", () -> x.ask(train, section), () -> model.ask(train, section));
        if (random.nextInt(3) > 0) {
            take(train);
        }
    }

    private void start(int train) {
        same("start", () -> x.start(train), () -> model.start(train));
    }

    private void acknowledge(int train) {
        same("acknowledge", () -> x.acknowledge(train), () -> model.acknowledge(train));
    }

    private void stop(int train) {
        same("stop", () -> x.stop(train), () -> model.stop(train));
    }

    private void take(int train) {
        int alter = random.nextInt(6) == 0 ? random.nextInt(1026) - 1 : 0;
        same("take", () -> x.take(train, alter), () -> model.take(train, alter));
    }

    private void wet(int train) {
        boolean on = random.nextBoolean();
        same("wet", () -> x.wet(train, on), () -> model.wet(train, on));
    }

    private void readTrain(int train) {
        for (int what = 0; what < 6; what++) {
            int w = what;
            same("of", () -> x.of(train, w), () -> model.of(train, w));
        }
        same("mode", () -> x.mode(train), () -> model.mode(train));
    }

    private void readLine() {
        double place = eighths(0, 500);
        same("limit", () -> x.limit(place), () -> model.limit(place));
        for (int section = 0; section < 5; section++) {
            int s = section;
            same("holds", () -> x.holds(s, 0), () -> model.holds(s, 0));
            same("holds", () -> x.holds(s, 1), () -> model.holds(s, 1));
        }
    }

    private void same(String call, Supplier<Object> program, Supplier<Object> due) {
        if (calls >= CALLS) {
            return;
        }
        calls++;
        String got = Check.answer(program);
        SEEN.merge(call + " " + got, 1, Integer::sum);
        Check.dueText(name + ", call " + calls + ", " + call, got, Check.answer(due));
    }

    private int trainBound() {
        return rarely() ? 4 : Math.max(1, (Integer) model.count(2));
    }

    private boolean rarely() {
        return random.nextInt(25) == 0;
    }

    private double eighths(double least, double most) {
        return least + random.nextInt((int) ((most - least) * 8) + 1) * 0.125;
    }
}
