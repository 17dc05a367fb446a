/** Promise 18 count. */
public final class CountTest {
    public static void main(String[] args) {
        things();
        forged();
        brakings();
        overruns();
        others();
        Check.finish();
    }

    private static void things() {
        TrainGuard x = Lines.three();
        Check.due("sections", x.count(0), 3);
        x.restrict(0, 10, 5);
        x.restrict(0, 10, 5);
        Check.due("RESTRICTIONS", x.count(1), 2);
        x.release(0);
        Check.due("RESTRICTIONS after a release", x.count(1), 1);
        x.train(0, 10, 1);
        x.train(1, 10, 1);
        Check.due("trains", x.count(2), 2);
        Check.due("sections still", x.count(0), 3);
    }

    private static void forged() {
        TrainGuard x = Lines.three();
        x.train(0, 10, 1);
        x.train(1, 10, 1);
        for (int train = 0; train < 2; train++) {
            int t = train;
            x.stop(t);
            Check.ends("forged for " + t, Check.SAFETY, () -> x.take(t, 7));
        }
        Check.due("FORGED of all trains", x.count(3), 2);
    }

    /** Two trains that stand at their AUTHORITIES and wish to go on. */
    private static void brakings() {
        TrainGuard x = new TrainGuard();
        x.section(50, 10);
        x.section(50, 10);
        for (int t = 0; t < 2; t++) {
            x.train(t, 50, 1);
            x.ask(t, t);
            x.take(t, 0);
            x.start(t);
            x.second(t, 1, 0);
            x.second(t, 0, 0);
        }
        Check.due("how often a guard braked", x.count(4), 2);
        Check.due("no overrun", x.count(5), 0);
    }

    private static void overruns() {
        TrainGuard x = new TrainGuard();
        x.section(50, 60);
        x.section(50, 60);
        x.train(0, 48.875, 1);
        x.ask(0, 0);
        x.take(0, 0);
        x.start(0);
        x.wet(0, true);
        Lines.seconds(x, 5, 1, 1);
        Check.due("seconds that ended in TRIP after FULL", x.count(5), 1);
        Check.due("TRIP brakes without the guard", x.count(4), 1);
    }

    private static void others() {
        int[] whats = {-1, 6, 7, Integer.MAX_VALUE, Integer.MIN_VALUE};
        for (int what : whats) {
            Check.due("count(" + what + ")", Lines.inFull().count(what), -1);
        }
    }
}
