/** Promises 1 a new object, 2 section, 3 restrict, 4 release, 15 limit. */
public final class LineTest {
    public static void main(String[] args) {
        newObject();
        sections();
        sectionRefusals();
        restrictions();
        restrictionRefusals();
        releases();
        limits();
        limitRefusals();
        Check.finish();
    }

    private static void newObject() {
        TrainGuard x = new TrainGuard();
        for (int what = 0; what < 6; what++) {
            Check.due("new: count(" + what + ")", x.count(what), 0);
        }
        Check.ends("new: mode(0)", Check.ARGUMENT, () -> x.mode(0));
        Check.ends("new: holds(0, 0)", Check.ARGUMENT, () -> x.holds(0, 0));
        Check.ends("new: limit(0)", Check.ARGUMENT, () -> x.limit(0));
        Check.ends("new: release(0)", Check.ARGUMENT, () -> x.release(0));
        x.section(50, 10);
        Check.due("another new: count(0)", new TrainGuard().count(0), 0);
    }

    private static void sections() {
        TrainGuard x = new TrainGuard();
        Check.due("the least section", x.section(50, 1), 0);
        Check.due("the greatest section", x.section(1000, 60), 1);
        for (int i = 2; i < 10; i++) {
            Check.due("section " + i, x.section(50, i), i);
        }
        Check.due("count(0)", x.count(0), 10);
        Check.due("holds of a new section", x.holds(9, 0), -1);
        Check.due("in a new section", x.holds(9, 1), -1);
        Check.due("limit at the end of the first", x.limit(49.875), 1);
        Check.due("limit at the begin of the second", x.limit(50), 60);
        Check.due("limit at the end of the second", x.limit(1049.875), 60);
        Check.due("limit at the begin of the third", x.limit(1050), 2);
        Check.due("limit at the line's end", x.limit(1450), 9);
    }

    private static TrainGuard tenSections() {
        TrainGuard x = new TrainGuard();
        for (int i = 0; i < 10; i++) {
            x.section(50, 10);
        }
        return x;
    }

    private static void sectionRefusals() {
        double[][] bad = {{49.875, 10}, {1000.125, 10}, {50, 0.875}, {50, 60.125}, {-50, 10}, {50, -10}, {0, 10},
            {Double.NaN, 10}, {50, Double.NaN}, {Double.POSITIVE_INFINITY, 10}, {50, Double.NEGATIVE_INFINITY}};
        for (double[] row : bad) {
            Check.refuses("section(" + row[0] + ", " + row[1] + ")", Check.ARGUMENT, Lines::three,
                    x -> x.section(row[0], row[1]));
        }
        Check.refuses("an 11th section", Check.STATE, LineTest::tenSections, x -> x.section(50, 10));
        Check.refuses("an 11th section out of range", Check.ARGUMENT, LineTest::tenSections, x -> x.section(49, 10));
        Check.refuses("section with a train", Check.STATE, Lines::standing, x -> x.section(50, 10));
        Check.refuses("section out of range with a train", Check.ARGUMENT, Lines::standing, x -> x.section(50, 61));
    }

    private static void restrictions() {
        TrainGuard x = new TrainGuard();
        Check.due("restrict before any section", x.restrict(0, 0.125, 1), 1);
        Check.due("the farthest", x.restrict(9999.875, 10000, 60), 2);
        Check.due("one inside another", x.restrict(0, 10000, 60), 3);
        Check.due("behind the line", x.restrict(500, 600, 30), 4);
        Check.due("the fifth", x.restrict(10, 20, 5), 5);
        Check.due("count(1)", x.count(1), 5);
        TrainGuard y = Lines.standing();
        Check.due("restrict with a train in STANDBY", y.restrict(0, 50, 7), 1);
        y.start(0);
        y.end(0);
        Check.due("restrict with a train in STANDBY again", y.restrict(0, 50, 7), 2);
    }

    private static TrainGuard fiveRestrictions() {
        TrainGuard x = Lines.standing();
        for (int i = 0; i < 5; i++) {
            x.restrict(i * 10, i * 10 + 30, 5 + i);
        }
        return x;
    }

    private static TrainGuard fiveRestrictionsInStaff() {
        TrainGuard x = fiveRestrictions();
        x.start(0);
        return x;
    }

    private static TrainGuard secondOfTwoInStaff() {
        TrainGuard x = Lines.standing();
        x.train(2, 10, 1);
        x.start(1);
        return x;
    }

    private static void restrictionRefusals() {
        double[][] bad = {{-0.125, 10, 5}, {10, 10, 5}, {10, 9.875, 5}, {0, 10000.125, 5}, {0, 10, 0.875}, {0, 10, 60.125},
            {Double.NaN, 10, 5}, {0, Double.NaN, 5}, {0, 10, Double.NaN}, {0, Double.POSITIVE_INFINITY, 5}};
        for (double[] row : bad) {
            String what = "restrict(" + row[0] + ", " + row[1] + ", " + row[2] + ")";
            Check.refuses(what, Check.ARGUMENT, Lines::standing, x -> x.restrict(row[0], row[1], row[2]));
            Check.refuses(what + " as the sixth in STAFF", Check.ARGUMENT, LineTest::fiveRestrictionsInStaff,
                    x -> x.restrict(row[0], row[1], row[2]));
        }
        Check.refuses("a sixth", Check.STATE, LineTest::fiveRestrictions, x -> x.restrict(0, 10, 5));
        Check.refuses("a sixth in STAFF", Check.STATE, LineTest::fiveRestrictionsInStaff, x -> x.restrict(0, 10, 5));
        Check.refuses("restrict in FULL", Check.SAFETY, Lines::inFull, x -> x.restrict(0, 10, 5));
        Check.refuses("restrict in TRIP", Check.SAFETY, Lines::inTrip, x -> x.restrict(0, 10, 5));
        Check.refuses("restrict in POST", Check.SAFETY, Lines::inPost, x -> x.restrict(0, 10, 5));
        Check.refuses("restrict with the second train in STAFF", Check.SAFETY, LineTest::secondOfTwoInStaff,
                x -> x.restrict(0, 10, 5));
    }

    private static void releases() {
        TrainGuard x = fiveRestrictions();
        Check.due("limit of the first", x.limit(0), 5);
        Check.due("limit of the third alone", x.limit(45), 7);
        Check.due("release(0)", x.release(0), 4);
        Check.due("limit without the first", x.limit(0), 20);
        Check.due("limit of what is the first now", x.limit(10), 6);
        Check.due("release(1)", x.release(1), 3);
        Check.due("limit without the third", x.limit(45), 8);
        Check.due("release of the last", x.release(2), 2);
        Check.due("limit without the last", x.limit(65), 20);
        x.start(0);
        Check.due("release with a train in STAFF", x.release(1), 1);
        Check.due("the last one left", x.limit(39.875), 6);
        Check.due("room again", x.count(1), 1);
        Check.due("release of all", x.release(0), 0);
        Check.refuses("release(5)", Check.ARGUMENT, LineTest::fiveRestrictions, y -> y.release(5));
        Check.refuses("release(-1)", Check.ARGUMENT, LineTest::fiveRestrictions, y -> y.release(-1));
        Check.refuses("release of none", Check.ARGUMENT, Lines::three, y -> y.release(0));
    }

    private static void limits() {
        TrainGuard x = Lines.three();
        x.restrict(90, 110, 15);
        x.restrict(95, 120, 12.5);
        x.restrict(200, 400, 60);
        x.restrict(399, 400, 7);
        x.restrict(400, 500, 3);
        double[][] due = {{0, 20}, {89.875, 20}, {90, 15}, {94.875, 15}, {95, 12.5}, {99.875, 12.5}, {100, 10}, {119.875, 10},
            {120, 10}, {199.875, 10}, {200, 30}, {398.875, 30}, {399, 7}, {399.875, 7}, {400, 3}};
        for (double[] row : due) {
            Check.due("limit(" + row[0] + ")", x.limit(row[0]), row[1]);
        }
    }

    private static void limitRefusals() {
        double[] bad = {-0.125, 400.125, Double.NaN, Double.POSITIVE_INFINITY, Double.NEGATIVE_INFINITY};
        for (double place : bad) {
            Check.refuses("limit(" + place + ")", Check.ARGUMENT, Lines::three, x -> x.limit(place));
        }
    }
}
