/** Promises 10 second, 11 wet, 14 of. */
public final class SecondTest {
    public static void main(String[] args) {
        nothingMoves();
        staffMoves();
        sectionBegins();
        lineEnd();
        guardAtTheAuthority();
        guardBeforeARestriction();
        guardBeforeASection();
        guardAtTheLineEnd();
        guardUnderALimit();
        guardForTheRear();
        guardBrakesNoHarder();
        overrun();
        trip();
        freeing();
        wetness();
        brakingWays();
        refusals();
        Check.finish();
    }

    private static void nothingMoves() {
        TrainGuard x = Lines.standing();
        Check.due("second in STANDBY", x.second(0, 1, 1), TrainGuard.STANDBY);
        Check.dueOf("STANDBY", x, 0, 20, 20, 0, 0, -1, 0);
        TrainGuard y = Lines.inPost();
        Check.due("second in POST", y.second(0, 1, 1), TrainGuard.POST);
        Check.dueOf("POST", y, 0, 20, 20, 0, 0, -1, 0);
    }

    private static void staffMoves() {
        TrainGuard x = Lines.inStaff();
        Check.due("second in STAFF", x.second(0, 1, 0), TrainGuard.STAFF);
        Check.dueOf("0 to 1", x, 0, 20.5, 20.5, 0.0625, 1, -1, 0.5);
        x.second(0, 1, 1);
        Check.dueOf("1 to 2, slip 1", x, 0, 22.1875, 22, 0.25, 2, -1, 2);
        x.second(0, 0.5, -1);
        Check.dueOf("2 to 2.5, slip -1", x, 0, 24.15625, 24.25, 0.53125, 2.5, -1, 3.25);
        Lines.seconds(x, 2, 1, 0);
        Check.due("two more", x.of(0, 3), 4.5);
        Lines.seconds(x, 1, 1, 0);
        Check.dueOf("at most 5", x, 0, 35.90625, 36, 2, 5, -1, 12.5);
        Lines.seconds(x, 1, 1, 0);
        Check.due("still", x.of(0, 3), 5);
        Lines.seconds(x, 2, -2, 0);
        Check.due("5 less 4", x.of(0, 3), 1);
        Lines.seconds(x, 1, -2, 0);
        Check.due("at least 0", x.of(0, 3), 0);
        Lines.seconds(x, 1, -2, 1);
        Check.dueOf("it stands", x, 0, 47.40625, 47.5, 3.4375, 0, -1, 0);
        Check.due("no guard braked", x.count(4), 0);
    }

    private static TrainGuard twoSections(double length, double brake) {
        TrainGuard x = new TrainGuard();
        x.section(50, 60);
        x.section(50, 60);
        x.train(0, length, brake);
        return x;
    }

    private static void sectionBegins() {
        TrainGuard x = twoSections(49.5, 1);
        x.start(0);
        Lines.seconds(x, 1, 1, 0);
        Check.dueOf("REAL comes to a begin", x, 0, 50, 50, 0, 1);
        Lines.seconds(x, 1, 0, 1);
        Check.dueOf("REAL goes from a begin", x, 0, 51.125, 51, 0.125, 1);
        TrainGuard y = twoSections(49, 1);
        y.start(0);
        Lines.seconds(y, 1, 1, -1);
        Check.dueOf("before a begin", y, 0, 49.4375, 49.5, 0.0625, 1);
        Lines.seconds(y, 1, 1, 1);
        Check.dueOf("REAL goes past a begin", y, 0, 51.125, 51.125, 0, 2);
        TrainGuard z = twoSections(49.5, 1);
        z.start(0);
        Lines.seconds(z, 1, 1, -1);
        Check.dueOf("MEASURED alone comes to a begin", z, 0, 49.9375, 50, 0.0625, 1);
    }

    private static void lineEnd() {
        TrainGuard x = new TrainGuard();
        x.section(50, 60);
        x.train(0, 49, 1);
        x.start(0);
        Lines.seconds(x, 1, 1, 0);
        Check.dueOf("before the end", x, 0, 49.5, 49.5, 0.0625, 1);
        Lines.seconds(x, 1, 1, 0);
        Check.dueOf("past the end", x, 0, 50, 50, 0, 0, -1, 0);
        Lines.seconds(x, 1, 1, 1);
        Check.dueOf("at the end", x, 0, 50, 50, 0, 0, -1, 0);
        TrainGuard y = new TrainGuard();
        y.section(50, 60);
        y.train(0, 49.5, 1);
        y.start(0);
        Lines.seconds(y, 1, 1, 0);
        Check.dueOf("to the end just", y, 0, 50, 50, 0, 0, -1, 0);
    }

    /** In FULL with an AUTHORITY to 50. */
    private static TrainGuard fullTo50(double length, double brake) {
        TrainGuard x = twoSections(length, brake);
        x.ask(0, 0);
        x.take(0, 0);
        x.start(0);
        return x;
    }

    /** From 0 to 1: way 0.5, MARGIN 0.0625, 1.125 * D 0.5625, in all 1.125. */
    private static void guardAtTheAuthority() {
        TrainGuard just = fullTo50(48.875, 1);
        Check.due("second in FULL", just.second(0, 1, 0), TrainGuard.FULL);
        Check.dueOf("SAFE to the last eighth", just, 0, 49.375, 49.375, 0.0625, 1, 50, 0.5);
        Check.due("no guard braked", just.count(4), 0);
        just.second(0, 1, 0);
        Check.dueOf("the guard brakes", just, 0, 49.875, 49.875, 0.125, 0, 50, 0);
        Check.due("a guard braked", just.count(4), 1);
        just.second(0, 1, 0);
        Check.dueOf("the guard brakes a train that stands", just, 0, 49.875, 49.875, 0.125, 0, 50, 0);
        Check.due("twice", just.count(4), 2);
        just.second(0, 0, 0);
        Check.due("without a wish it does not", just.count(4), 2);
        TrainGuard over = fullTo50(49, 1);
        over.second(0, 1, 0);
        Check.dueOf("an eighth too far", over, 0, 49, 49, 0, 0, 50, 0);
        Check.due("it braked", over.count(4), 1);
    }

    private static TrainGuard fullWithRestriction(double from, double to, double speed) {
        TrainGuard x = new TrainGuard();
        x.section(100, 60);
        x.restrict(from, to, speed);
        x.train(0, 20, 1);
        x.ask(0, 0);
        x.take(0, 0);
        x.start(0);
        return x;
    }

    /** From 1 to 1.5: MEASURED 21.75, MARGIN 0.21875, 1.125 * D of 1.5 and 1 is 1.40625, in all 23.375. */
    private static void guardBeforeARestriction() {
        TrainGuard just = fullWithRestriction(23.375, 30, 1);
        just.second(0, 1, 0);
        just.second(0, 0.5, 0);
        Check.dueOf("SAFE to the last eighth of a RESTRICTION", just, 0, 21.75, 21.75, 0.21875, 1.5);
        TrainGuard over = fullWithRestriction(23.25, 30, 1);
        over.second(0, 1, 0);
        over.second(0, 0.5, 0);
        Check.dueOf("an eighth too far before a RESTRICTION", over, 0, 21, 21, 0.125, 0);
        TrainGuard slow = fullWithRestriction(23.25, 30, 1.5);
        slow.second(0, 1, 0);
        slow.second(0, 0.5, 0);
        Check.due("the LIMIT there is enough", slow.of(0, 3), 1.5);
        TrainGuard released = fullWithRestriction(23.25, 30, 1);
        released.second(0, 1, 0);
        released.release(0);
        released.second(0, 0.5, 0);
        Check.due("a RESTRICTION that is gone", released.of(0, 3), 1.5);
    }

    private static TrainGuard fullBeforeASection(double length, double speed) {
        TrainGuard x = new TrainGuard();
        x.section(50, 60);
        x.section(50, speed);
        x.train(0, length, 1);
        x.ask(0, 1);
        x.take(0, 0);
        x.start(0);
        x.second(0, 1, 0);
        x.second(0, 0.5, 0);
        return x;
    }

    private static void guardBeforeASection() {
        TrainGuard just = fullBeforeASection(46.625, 1);
        Check.due("SAFE to the last eighth of a section", just.of(0, 3), 1.5);
        Check.due("an eighth too far before a section", fullBeforeASection(46.75, 1).of(0, 3), 0);
        Check.due("into a fast section", fullBeforeASection(46.75, 1.5).of(0, 3), 1.5);
    }

    /** A RESTRICTION's from at the line's end counts, one above it does not. The AUTHORITY is the line's end too. */
    private static void guardAtTheLineEnd() {
        TrainGuard at = fullWithRestriction(100, 200, 1);
        TrainGuard above = fullWithRestriction(100.125, 200, 1);
        for (int i = 0; i < 40; i++) {
            at.second(0, 1, 0);
            above.second(0, 1, 0);
            Check.due("second " + i + " before the end", at.of(0, 0), above.of(0, 0));
        }
        Check.due("the limit at the end", at.limit(100), 1);
        Check.due("without it", above.limit(100), 60);
    }

    /** At speed 2 with the way 2: MEASURED 22, MARGIN 0.25; the next wish is 2.5 at 24.25 and 0.53125, 24.78125. */
    private static void guardUnderALimit() {
        TrainGuard under = fullWithRestriction(20, 24.875, 2);
        Lines.seconds(under, 2, 1, 0);
        under.second(0, 0.5, 0);
        Check.due("above the LIMIT at the front", under.of(0, 3), 1);
        TrainGuard behind = fullWithRestriction(20, 24.75, 2);
        Lines.seconds(behind, 2, 1, 0);
        behind.second(0, 0.5, 0);
        Check.due("the RESTRICTION ends before the front", behind.of(0, 3), 2.5);
        TrainGuard at = fullWithRestriction(20, 90, 2);
        Lines.seconds(at, 2, 1, 0);
        Check.due("as fast as the LIMIT", at.of(0, 3), 2);
        Check.due("no guard braked", at.count(4), 0);
    }

    /** At speed 2.5 MEASURED less the length is 4.25. */
    private static void guardForTheRear() {
        TrainGuard under = fullWithRestriction(0, 4.375, 2);
        Lines.seconds(under, 2, 1, 0);
        under.second(0, 0.5, 0);
        Check.due("above the LIMIT at the rear", under.of(0, 3), 1);
        TrainGuard past = fullWithRestriction(0, 4.25, 2);
        Lines.seconds(past, 2, 1, 0);
        past.second(0, 0.5, 0);
        Check.due("the rear is past it", past.of(0, 3), 2.5);
        TrainGuard middle = fullWithRestriction(4.375, 20, 1);
        Lines.seconds(middle, 2, 1, 0);
        middle.second(0, 0.5, 0);
        Check.due("between rear and front", middle.of(0, 3), 2.5);
    }

    /** Wet, a brake of 0.5 brings 0.25; the guard brings just that, also where the wish is to slow down by 2. */
    private static void guardBrakesNoHarder() {
        TrainGuard x = fullTo50(48.25, 0.5);
        x.wet(0, true);
        x.second(0, 1, -1);
        Check.dueOf("as it wishes", x, 0, 48.6875, 48.75, 0.0625, 1, 50, 1);
        x.second(0, 1, -1);
        Check.dueOf("the guard brakes, wet", x, 0, 49.453125, 49.625, 0.171875, 0.75, 50, 0.625);
        x.second(0, -2, -1);
        Check.dueOf("the guard brakes less than is wished", x, 0, 50, 50, 0, 0.5, 50, 0.25);
        Check.due("twice", x.count(4), 2);
        Check.due("in FULL still", x.mode(0), TrainGuard.FULL);
        Check.due("above the AUTHORITY then", x.second(0, -2, -1), TrainGuard.TRIP);
    }

    /** Slip 1 and a wet brake: REAL 49.4375 at speed 1, then 0.75 * 1.125 more. */
    private static void overrun() {
        TrainGuard dry = fullTo50(48.875, 1);
        dry.second(0, 1, 1);
        Check.due("to the AUTHORITY just", dry.second(0, 1, 1), TrainGuard.FULL);
        Check.dueOf("to the AUTHORITY just", dry, 0, 50, 50, 0, 0, 50, 0);
        TrainGuard wet = fullTo50(48.875, 1);
        wet.wet(0, true);
        wet.second(0, 1, 1);
        Check.due("above the AUTHORITY", wet.second(0, 1, 1), TrainGuard.TRIP);
        Check.dueOf("above the AUTHORITY", wet, 0, 50.28125, 50.28125, 0, 0.5, -1, 0.25);
        Check.due("mode", wet.mode(0), TrainGuard.TRIP);
        Check.due("count(5)", wet.count(5), 1);
        Check.due("in TRIP still", wet.second(0, 1, 0), TrainGuard.TRIP);
        Check.due("count(5) then", wet.count(5), 1);
        Check.due("the guard braked once", wet.count(4), 1);
    }

    private static void trip() {
        TrainGuard x = Lines.inStaff();
        Lines.seconds(x, 5, 1, 0);
        x.stop(0);
        x.take(0, 0);
        Check.due("second in TRIP", x.second(0, 1, 0), TrainGuard.TRIP);
        Check.dueOf("from 5 to 4", x, 0, 37, 37, 2.125, 4, -1, 8);
        x.wet(0, true);
        x.second(0, -2, 1);
        Check.dueOf("from 4 to 3.5, wet", x, 0, 41.21875, 40.75, 2.59375, 3.5, -1, 6.25);
        x.wet(0, false);
        Lines.seconds(x, 3, 1, 0);
        Check.due("from 3.5 to 0.5", x.of(0, 3), 0.5);
        Lines.seconds(x, 1, 1, 0);
        Check.due("at least 0", x.of(0, 3), 0);
        Check.due("no guard braked", x.count(4), 0);
        Check.due("no second of FULL", x.count(5), 0);
    }

    private static void freeing() {
        TrainGuard x = twoSections(10, 1);
        x.start(0);
        x.ask(0, 1);
        Lines.seconds(x, 10, 1, 0);
        Check.dueOf("on the way", x, 0, 47.5);
        Lines.seconds(x, 2, 0, 0);
        Check.due("the rear is before the end", x.of(0, 0), 57.5);
        Check.due("held", x.holds(0, 0), 0);
        Lines.seconds(x, 1, -2, 0);
        Lines.seconds(x, 1, -2, 0);
        Check.due("the rear is past the end", x.of(0, 0), 63.5);
        Check.due("free", x.holds(0, 0), -1);
        Check.due("the next", x.holds(1, 0), 0);
        TrainGuard y = twoSections(50, 1);
        y.start(0);
        Lines.seconds(y, 11, 1, 0);
        Check.due("the rear is before the edge", y.of(0, 0) - 50, 42.5);
        Check.due("held before the edge", y.holds(0, 0), 0);
        Lines.seconds(y, 2, 1, 0);
        Check.due("the rear is at the edge just", y.of(0, 0) - 50, 50);
        Check.due("free at the edge", y.holds(0, 0), -1);
    }

    private static void wetness() {
        TrainGuard x = Lines.inStaff();
        Check.due("wet", x.wet(0, true), 0);
        Lines.seconds(x, 3, 1, 0);
        Check.due("a wet train goes as it wishes", x.of(0, 3), 3);
        x.second(0, -2, 0);
        Check.due("in STAFF it slows as it wishes", x.of(0, 3), 1);
        Check.due("D is that of the dry brake", x.of(0, 5), 0.5);
        x.stop(0);
        x.take(0, 0);
        Lines.seconds(x, 1, 0, 0);
        Check.due("half of the brake", x.of(0, 3), 0.5);
        Check.due("not wet", x.wet(0, false), 0);
        Check.due("not wet again", x.wet(0, false), 0);
        Lines.seconds(x, 1, 0, 0);
        Check.due("the whole brake", x.of(0, 3), 0);
        wetOfOneAlone();
    }

    private static void wetOfOneAlone() {
        TrainGuard x = Lines.inStaff();
        x.train(2, 10, 1);
        x.wet(1, true);
        Lines.seconds(x, 3, 1, 0);
        x.stop(0);
        x.take(0, 0);
        Lines.seconds(x, 1, 0, 0);
        Check.due("another one is wet", x.of(0, 3), 2);
    }

    private static void brakingWays() {
        double[] brakes = {0.5, 1, 1.5, 2};
        double[] ways = {2.25 + 1.75 + 1.25 + 0.75 + 0.25, 2 + 1 + 0.25, 1.75 + 0.5, 1.5 + 0.25};
        for (int i = 0; i < brakes.length; i++) {
            TrainGuard x = Lines.three();
            x.train(0, 20, brakes[i]);
            x.start(0);
            Lines.seconds(x, 2, 1, 0);
            Lines.seconds(x, 1, 0.5, 0);
            Check.due("D of 2.5 and 0 with brake " + brakes[i], x.of(0, 5), ways[i]);
        }
    }

    private static void refusals() {
        double[] bad = {1.125, -2.125, 100, Double.NaN, Double.POSITIVE_INFINITY, Double.NEGATIVE_INFINITY};
        for (double a : bad) {
            Check.refuses("second(0, " + a + ", 0)", Check.ARGUMENT, Lines::inFull, x -> x.second(0, a, 0));
            Check.refuses("second(0, " + a + ", 0) in STANDBY", Check.ARGUMENT, Lines::standing, x -> x.second(0, a, 0));
        }
        int[] slips = {-2, 2, Integer.MAX_VALUE, Integer.MIN_VALUE};
        for (int slip : slips) {
            Check.refuses("second(0, 0, " + slip + ")", Check.ARGUMENT, Lines::inFull, x -> x.second(0, 0, slip));
        }
        int[] whats = {-1, 6, Integer.MAX_VALUE, Integer.MIN_VALUE};
        for (int what : whats) {
            Check.refuses("of(0, " + what + ")", Check.ARGUMENT, Lines::inFull, x -> x.of(0, what));
        }
        Check.due("the least a", Lines.inFull().second(0, -2, -1), TrainGuard.FULL);
        Check.due("the greatest a", Lines.inFull().second(0, 1, 1), TrainGuard.FULL);
    }
}
