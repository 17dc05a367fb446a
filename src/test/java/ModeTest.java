import java.util.function.Consumer;

/** Promises 6 start, 12 acknowledge, 13 end, 16 mode. */
public final class ModeTest {
    public static void main(String[] args) {
        starts();
        startRefusals();
        acknowledges();
        acknowledgeRefusals();
        ends();
        endHoldings();
        endRefusals();
        modes();
        noSuchTrain();
        Check.finish();
    }

    private static void starts() {
        TrainGuard x = Lines.standing();
        x.ask(0, 2);
        Check.due("start with the AUTHORITY not taken", x.start(0), TrainGuard.STAFF);
        Check.due("start with an AUTHORITY", Lines.inFull().mode(0), TrainGuard.FULL);
        TrainGuard y = Lines.inFull();
        y.end(0);
        Check.due("start when end has taken the AUTHORITY", y.start(0), TrainGuard.STAFF);
        TrainGuard z = Lines.standing();
        z.ask(0, 0);
        z.take(0, 0);
        z.stop(0);
        Check.due("a STOP in STANDBY", z.take(0, 0), 0);
        Check.due("leaves it there", z.mode(0), TrainGuard.STANDBY);
        Check.due("start after it", z.start(0), TrainGuard.STAFF);
        startAtTheEdge();
    }

    /** The train's front stands at the AUTHORITY just. */
    private static void startAtTheEdge() {
        TrainGuard x = new TrainGuard();
        x.section(50, 20);
        x.section(50, 20);
        x.train(0, 50, 1);
        x.ask(0, 0);
        x.take(0, 0);
        Check.due("start at the AUTHORITY", x.start(0), TrainGuard.FULL);
        Check.due("the AUTHORITY", x.of(0, 4), 50);
    }

    private static void startRefusals() {
        Check.refuses("start in STAFF", Check.STATE, Lines::inStaff, x -> x.start(0));
        Check.refuses("start in FULL", Check.STATE, Lines::inFull, x -> x.start(0));
        Check.refuses("start in TRIP", Check.STATE, Lines::inTrip, x -> x.start(0));
        Check.refuses("start in POST", Check.STATE, Lines::inPost, x -> x.start(0));
    }

    private static void acknowledges() {
        TrainGuard x = Lines.inTrip();
        Check.due("acknowledge in TRIP", x.acknowledge(0), TrainGuard.POST);
        Check.due("acknowledge in POST", x.acknowledge(0), TrainGuard.STAFF);
        TrainGuard y = Lines.inPost();
        y.ask(0, 2);
        y.take(0, 0);
        Check.due("an AUTHORITY taken in POST", y.of(0, 4), 400);
        Check.due("leaves it in POST", y.mode(0), TrainGuard.POST);
        Check.due("acknowledge then", y.acknowledge(0), TrainGuard.STAFF);
        TrainGuard z = movingInTrip();
        Lines.seconds(z, 2, 0, 0);
        Check.due("acknowledge when it stands again", z.acknowledge(0), TrainGuard.POST);
    }

    private static TrainGuard movingInStaff() {
        TrainGuard x = Lines.inStaff();
        Lines.seconds(x, 2, 1, 0);
        return x;
    }

    private static TrainGuard movingInTrip() {
        TrainGuard x = movingInStaff();
        x.stop(0);
        x.take(0, 0);
        return x;
    }

    private static void acknowledgeRefusals() {
        Check.refuses("acknowledge in STANDBY", Check.STATE, Lines::standing, x -> x.acknowledge(0));
        Check.refuses("acknowledge in STAFF", Check.STATE, Lines::inStaff, x -> x.acknowledge(0));
        Check.refuses("acknowledge in FULL", Check.STATE, Lines::inFull, x -> x.acknowledge(0));
        Check.refuses("acknowledge in TRIP on the way", Check.STATE, ModeTest::movingInTrip, x -> x.acknowledge(0));
    }

    private static void ends() {
        TrainGuard x = Lines.inFull();
        Check.due("end in FULL", x.end(0), 0);
        Check.due("its mode", x.mode(0), TrainGuard.STANDBY);
        Check.due("its AUTHORITY", x.of(0, 4), -1);
        Check.due("its own section", x.holds(0, 0), 0);
        Check.due("a section ahead", x.holds(1, 0), -1);
        Check.due("the last section", x.holds(2, 0), -1);
        x.ask(0, 1);
        x.take(0, 0);
        Check.due("end in STANDBY", x.end(0), 0);
        Check.due("the AUTHORITY in STANDBY", x.of(0, 4), -1);
        Check.due("the section ahead in STANDBY", x.holds(1, 0), -1);
        Check.due("end in POST", Lines.inPost().end(0), 0);
        TrainGuard y = Lines.inStaff();
        y.ask(0, 2);
        Check.due("end in STAFF", y.end(0), 0);
        Check.due("the message is there still", y.take(0, 0), 1);
        Check.due("STANDBY then", y.mode(0), TrainGuard.STANDBY);
    }

    /** A train in STAFF that stands with its front in section 1. */
    private static TrainGuard astride(boolean isHeld) {
        TrainGuard x = new TrainGuard();
        x.section(50, 20);
        x.section(50, 20);
        x.section(50, 20);
        if (isHeld) {
            x.train(1, 10, 1);
        } else {
            x.train(2, 10, 1);
        }
        x.train(0, 49.5, 1);
        x.start(1);
        x.second(1, 1, 0);
        x.second(1, 1, 0);
        x.second(1, -2, 0);
        return x;
    }

    private static void endHoldings() {
        TrainGuard x = astride(false);
        Check.due("the front's section before end", x.holds(1, 0), -1);
        Check.due("end astride", x.end(1), 0);
        Check.due("the rear's section", x.holds(0, 0), 1);
        Check.due("the front's section", x.holds(1, 0), 1);
        Check.due("another's section", x.holds(2, 0), 0);
        TrainGuard y = astride(true);
        Check.due("end astride in another's", y.end(1), 0);
        Check.due("the rear's section again", y.holds(0, 0), 1);
        Check.due("the other's section stays its", y.holds(1, 0), 0);
        Check.due("a free section it is not in", y.holds(2, 0), -1);
    }

    private static void endRefusals() {
        Check.refuses("end in TRIP", Check.STATE, Lines::inTrip, x -> x.end(0));
        Check.refuses("end on the way", Check.STATE, ModeTest::movingInStaff, x -> x.end(0));
        Check.refuses("end in TRIP on the way", Check.STATE, ModeTest::movingInTrip, x -> x.end(0));
    }

    private static void modes() {
        Check.due("mode in STANDBY", Lines.standing().mode(0), TrainGuard.STANDBY);
        Check.due("mode in STAFF", Lines.inStaff().mode(0), TrainGuard.STAFF);
        Check.due("mode in FULL", Lines.inFull().mode(0), TrainGuard.FULL);
        Check.due("mode in TRIP", Lines.inTrip().mode(0), TrainGuard.TRIP);
        Check.due("mode in POST", Lines.inPost().mode(0), TrainGuard.POST);
        TrainGuard x = Lines.inFull();
        x.end(0);
        x.train(1, 10, 1);
        x.start(1);
        Check.due("mode of the first of two", x.mode(0), TrainGuard.STANDBY);
        Check.due("mode of the second of two", x.mode(1), TrainGuard.STAFF);
    }

    private static void noSuchTrain() {
        int[] bad = {-1, 1, 2, 3, Integer.MAX_VALUE, Integer.MIN_VALUE};
        for (int train : bad) {
            refusesTrain("start", train, x -> x.start(train));
            refusesTrain("ask", train, x -> x.ask(train, 0));
            refusesTrain("stop", train, x -> x.stop(train));
            refusesTrain("take", train, x -> x.take(train, 0));
            refusesTrain("second", train, x -> x.second(train, 0, 0));
            refusesTrain("wet", train, x -> x.wet(train, true));
            refusesTrain("acknowledge", train, x -> x.acknowledge(train));
            refusesTrain("end", train, x -> x.end(train));
            refusesTrain("of", train, x -> x.of(train, 0));
            refusesTrain("mode", train, x -> x.mode(train));
        }
    }

    private static void refusesTrain(String call, int train, Consumer<TrainGuard> made) {
        Check.refuses(call + " of train " + train, Check.ARGUMENT, Lines::inFull, made);
    }
}
