/** Promises 7 ask, 8 stop, 9 take. */
public final class MessageTest {
    public static void main(String[] args) {
        asking();
        askingInAllModes();
        askRefusals();
        stopping();
        takingAnAuthority();
        takingAStop();
        takingInTrip();
        takingForged();
        takingWhatIsNotSafe();
        takeRefusals();
        Check.finish();
    }

    private static void asking() {
        TrainGuard x = Lines.standing();
        Check.due("ask for its own section", x.ask(0, 0), 1);
        Check.due("the next is not held", x.holds(1, 0), -1);
        Check.due("ask for all", x.ask(0, 2), 2);
        for (int section = 0; section < 3; section++) {
            Check.due("section " + section + " is held", x.holds(section, 0), 0);
        }
        Check.due("ask for less", x.ask(0, 1), 3);
        Check.due("what was held is held", x.holds(2, 0), 0);
        Check.due("no AUTHORITY before take", x.of(0, 4), -1);
        Check.due("take of the last message", x.take(0, 0), 1);
        Check.due("its place", x.of(0, 4), 200);
        Check.ends("only one message is there", Check.MESSAGE, () -> x.take(0, 0));
    }

    private static void askingInAllModes() {
        Check.due("ask in STAFF", Lines.inStaff().ask(0, 1), 1);
        Check.due("ask in FULL", Lines.inFull().ask(0, 1), 2);
        Check.due("ask in TRIP", Lines.inTrip().ask(0, 1), 3);
        Check.due("ask in POST", Lines.inPost().ask(0, 1), 3);
    }

    /** Train 1 stands in section 2 and has asked for section 3. */
    private static TrainGuard withAnotherAhead() {
        TrainGuard x = Lines.astride();
        x.train(2, 50, 1);
        x.ask(1, 3);
        return x;
    }

    /** Train 0 stands in section 1; train 1, from section 0, has come into it. */
    private static TrainGuard withAnotherInside() {
        TrainGuard x = new TrainGuard();
        x.section(50, 20);
        x.section(50, 20);
        x.train(1, 10, 1);
        x.train(0, 50, 1);
        x.start(1);
        x.second(1, 1, 0);
        return x;
    }

    /** Train 0 has gone in STAFF from section 1 to 2, which it does not hold; train 1 stands in section 0. */
    private static TrainGuard withAnUnheldOneAhead() {
        TrainGuard x = new TrainGuard();
        x.section(50, 20);
        x.section(50, 20);
        x.section(50, 20);
        x.train(1, 10, 1);
        x.train(0, 10, 1);
        x.start(0);
        Lines.seconds(x, 13, 1, 0);
        return x;
    }

    private static void askRefusals() {
        int[] bad = {-1, 3, Integer.MAX_VALUE, Integer.MIN_VALUE};
        for (int section : bad) {
            Check.refuses("ask(0, " + section + ")", Check.ARGUMENT, Lines::standing, x -> x.ask(0, section));
        }
        Check.refuses("ask before HEAD", Check.ARGUMENT, Lines::astride, x -> x.ask(0, 0));
        Check.refuses("ask before HEAD for another's", Check.ARGUMENT, MessageTest::withAnotherAhead, x -> x.ask(1, 0));
        Check.due("ask for HEAD", Lines.astride().ask(0, 1), 1);
        Check.refuses("ask for another's", Check.STATE, MessageTest::withAnotherAhead, x -> x.ask(0, 2));
        Check.refuses("ask over another's", Check.STATE, MessageTest::withAnotherAhead, x -> x.ask(0, 3));
        Check.due("ask up to another's", withAnotherAhead().ask(0, 1), 1);
        Check.refuses("ask with another one in it", Check.STATE, MessageTest::withAnotherInside, x -> x.ask(0, 1));
        Check.refuses("the other one's ask", Check.STATE, MessageTest::withAnotherInside, x -> x.ask(1, 1));
        Check.due("section 1 is free", withAnUnheldOneAhead().holds(1, 0), -1);
        Check.due("section 2 is held by none", withAnUnheldOneAhead().holds(2, 0), -1);
        Check.refuses("ask for one held by none with another in it", Check.STATE, MessageTest::withAnUnheldOneAhead,
                x -> x.ask(1, 2));
        Check.due("ask up to it", withAnUnheldOneAhead().ask(1, 1), 1);
        Check.due("the one ahead may", withAnUnheldOneAhead().ask(0, 2), 1);
    }

    private static void stopping() {
        TrainGuard x = Lines.standing();
        Check.due("stop", x.stop(0), 1);
        Check.due("stop again", x.stop(0), 2);
        Check.due("ask in place of it", x.ask(0, 0), 3);
        Check.due("stop in place of that", x.stop(0), 4);
        Check.due("take of the STOP", x.take(0, 0), 0);
        Check.ends("one message", Check.MESSAGE, () -> x.take(0, 0));
        x.train(1, 10, 1);
        Check.due("another train has its own numbers", x.stop(1), 1);
        Check.due("and the first goes on with its", x.stop(0), 5);
        Check.due("stop in FULL", Lines.inFull().stop(0), 2);
        Check.due("stop changes no mode before take", Lines.inFull().mode(0), TrainGuard.FULL);
        Check.due("stop in TRIP", Lines.inTrip().stop(0), 3);
    }

    private static void takingAnAuthority() {
        TrainGuard x = Lines.inStaff();
        x.ask(0, 1);
        Check.due("take in STAFF", x.take(0, 0), 1);
        Check.due("it stands and goes to FULL", x.mode(0), TrainGuard.FULL);
        x.ask(0, 2);
        Check.due("take in FULL", x.take(0, 0), 1);
        Check.due("in place of the one before", x.of(0, 4), 400);
        x.ask(0, 0);
        Check.due("take of a nearer one", x.take(0, 0), 1);
        Check.due("in place of the farther one", x.of(0, 4), 100);
        TrainGuard y = Lines.inStaff();
        Lines.seconds(y, 1, 1, 0);
        y.ask(0, 2);
        Check.due("take in STAFF on the way", y.take(0, 0), 1);
        Check.due("it is in STAFF still", y.mode(0), TrainGuard.STAFF);
        Check.due("with its AUTHORITY", y.of(0, 4), 400);
        Lines.seconds(y, 1, -1, 0);
        y.ask(0, 2);
        Check.due("take when it stands", y.take(0, 0), 1);
        Check.due("brings FULL", y.mode(0), TrainGuard.FULL);
    }

    private static void takingAStop() {
        TrainGuard x = Lines.inFull();
        x.stop(0);
        Check.due("take of a STOP in FULL", x.take(0, 0), 0);
        Check.due("TRIP", x.mode(0), TrainGuard.TRIP);
        Check.due("no AUTHORITY", x.of(0, 4), -1);
        Check.due("the sections are held still", x.holds(2, 0), 0);
        Check.due("no second has ended so", x.count(5), 0);
        TrainGuard y = Lines.inStaff();
        y.stop(0);
        Check.due("take of a STOP in STAFF", y.take(0, 0), 0);
        Check.due("TRIP from STAFF", y.mode(0), TrainGuard.TRIP);
        TrainGuard z = Lines.inPost();
        z.ask(0, 2);
        z.take(0, 0);
        z.stop(0);
        Check.due("take of a STOP in POST", z.take(0, 0), 0);
        Check.due("POST stays", z.mode(0), TrainGuard.POST);
        Check.due("but its AUTHORITY is gone", z.of(0, 4), -1);
    }

    private static TrainGuard askedInTrip() {
        TrainGuard x = Lines.inTrip();
        x.ask(0, 2);
        return x;
    }

    private static void takingInTrip() {
        Check.refuses("take of an AUTHORITY in TRIP", Check.STATE, MessageTest::askedInTrip, x -> x.take(0, 0));
        Check.refuses("take of a forged one in TRIP", Check.STATE, MessageTest::askedInTrip, x -> x.take(0, 5));
        TrainGuard x = askedInTrip();
        Check.ends("it stays", Check.STATE, () -> x.take(0, 0));
        x.acknowledge(0);
        Check.due("take in POST then", x.take(0, 0), 1);
        TrainGuard y = Lines.inTrip();
        y.stop(0);
        Check.due("take of a STOP in TRIP", y.take(0, 0), 0);
        Check.due("TRIP still", y.mode(0), TrainGuard.TRIP);
        y.stop(0);
        Check.ends("take of a forged STOP in TRIP", Check.SAFETY, () -> y.take(0, 1));
        Check.due("FORGED", y.count(3), 1);
    }

    private static void takingForged() {
        int[] alters = {1, 2, 512, 1022, 1023};
        for (int alter : alters) {
            TrainGuard x = Lines.inFull();
            x.ask(0, 1);
            Check.ends("take altered by " + alter, Check.SAFETY, () -> x.take(0, alter));
            Check.due("FORGED", x.count(3), 1);
            Check.due("the AUTHORITY before stays", x.of(0, 4), 400);
            Check.ends("the message is gone", Check.MESSAGE, () -> x.take(0, 0));
            x.stop(0);
            Check.ends("take of a STOP altered by " + alter, Check.SAFETY, () -> x.take(0, alter));
            Check.due("FORGED again", x.count(3), 2);
            Check.due("no TRIP", x.mode(0), TrainGuard.FULL);
            Check.due("the number after it", x.ask(0, 2), 4);
        }
    }

    /** In STAFF at speed 4: MEASURED is 8 more than the length, MARGIN 1. */
    private static TrainGuard fastAndNear(double brake, double length) {
        TrainGuard x = new TrainGuard();
        x.section(50, 20);
        x.section(50, 20);
        x.train(0, length, brake);
        x.start(0);
        Lines.seconds(x, 4, 1, 0);
        return x;
    }

    /** With brake 0.5 D is 16 and 1.125 * D 18: it can stop at 25 + 8 + 1 + 18, which is 52. */
    private static void takingWhatIsNotSafe() {
        TrainGuard x = fastAndNear(0.5, 25);
        x.ask(0, 1);
        Check.due("100 is SAFE", x.take(0, 0), 1);
        x.ask(0, 0);
        Check.ends("50 is not SAFE", Check.SAFETY, () -> x.take(0, 0));
        Check.due("it is not FORGED", x.count(3), 0);
        Check.due("the one before stays", x.of(0, 4), 100);
        Check.ends("it is gone", Check.MESSAGE, () -> x.take(0, 0));
        Check.due("its mode", x.mode(0), TrainGuard.STAFF);
        takingAtTheEdge();
    }

    /** With brake 1 D is 8 and 1.125 * D 9: it can stop 8 + 1 + 9 beyond its length. */
    private static void takingAtTheEdge() {
        TrainGuard just = fastAndNear(1, 32);
        just.ask(0, 0);
        Check.due("SAFE to the last eighth", just.take(0, 0), 1);
        TrainGuard over = fastAndNear(1, 32.125);
        over.ask(0, 0);
        Check.ends("an eighth too far", Check.SAFETY, () -> over.take(0, 0));
        TrainGuard wet = fastAndNear(1, 32);
        wet.wet(0, true);
        wet.ask(0, 0);
        Check.due("D is that of the dry brake", wet.take(0, 0), 1);
    }

    private static TrainGuard asked() {
        TrainGuard x = Lines.standing();
        x.ask(0, 1);
        return x;
    }

    private static void takeRefusals() {
        int[] bad = {-1, 1024, Integer.MAX_VALUE, Integer.MIN_VALUE};
        for (int alter : bad) {
            Check.refuses("take(0, " + alter + ")", Check.ARGUMENT, MessageTest::asked, x -> x.take(0, alter));
            Check.refuses("take(0, " + alter + ") of none", Check.ARGUMENT, Lines::standing, x -> x.take(0, alter));
        }
        Check.refuses("take of none", Check.MESSAGE, Lines::standing, x -> x.take(0, 0));
        Check.refuses("take of none in TRIP", Check.MESSAGE, Lines::inTrip, x -> x.take(0, 1));
    }
}
