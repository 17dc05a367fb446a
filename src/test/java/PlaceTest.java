/** Promises 5 train and 17 holds. */
public final class PlaceTest {
    public static void main(String[] args) {
        placing();
        argumentRefusals();
        stateRefusals();
        inAndHeld();
        holdsRefusals();
        Check.finish();
    }

    private static void placing() {
        TrainGuard x = Lines.three();
        Check.due("the first train", x.train(1, 50, 0.5), 0);
        Check.dueOf("the first train", x, 0, 150, 150, 0, 0, -1, 0);
        Check.due("its mode", x.mode(0), TrainGuard.STANDBY);
        Check.due("it holds its section", x.holds(1, 0), 0);
        Check.due("the second train", x.train(0, 10, 2), 1);
        Check.dueOf("the second train", x, 1, 10, 10, 0, 0, -1, 0);
        Check.due("the third train", x.train(2, 12.5, 1.125), 2);
        Check.dueOf("the third train", x, 2, 212.5, 212.5, 0, 0, -1, 0);
        Check.due("count(2)", x.count(2), 3);
        for (int section = 0; section < 3; section++) {
            int train = section == 0 ? 1 : section == 1 ? 0 : 2;
            Check.due("who holds " + section, x.holds(section, 0), train);
            Check.due("who is in " + section, x.holds(section, 1), train);
        }
    }

    private static void argumentRefusals() {
        double[][] bad = {{-1, 10, 1}, {3, 10, 1}, {1, 9.875, 1}, {1, 50.125, 1}, {1, 10, 0.375}, {1, 10, 2.125}, {1, 10, 0},
            {1, 10, -1}, {1, Double.NaN, 1}, {1, 10, Double.NaN}, {1, Double.POSITIVE_INFINITY, 1},
            {Integer.MAX_VALUE, 10, 1}, {Integer.MIN_VALUE, 10, 1}};
        for (double[] row : bad) {
            Check.refuses("train(" + (int) row[0] + ", " + row[1] + ", " + row[2] + ")", Check.ARGUMENT, Lines::standing,
                    x -> x.train((int) row[0], row[1], row[2]));
        }
        Check.refuses("train on no line", Check.ARGUMENT, TrainGuard::new, x -> x.train(0, 10, 1));
        Check.refuses("a fourth train too long", Check.ARGUMENT, PlaceTest::threeTrains, x -> x.train(3, 51, 1));
        Check.refuses("too short in a held section", Check.ARGUMENT, Lines::standing, x -> x.train(0, 9, 1));
    }

    private static TrainGuard threeTrains() {
        TrainGuard x = Lines.three();
        x.section(50, 10);
        x.train(0, 10, 1);
        x.train(1, 10, 1);
        x.train(2, 10, 1);
        return x;
    }

    private static TrainGuard askedAhead() {
        TrainGuard x = Lines.standing();
        x.ask(0, 1);
        return x;
    }

    private static void stateRefusals() {
        Check.refuses("a fourth train", Check.STATE, PlaceTest::threeTrains, x -> x.train(3, 10, 1));
        Check.refuses("a held section", Check.STATE, Lines::standing, x -> x.train(0, 10, 1));
        Check.refuses("a section held ahead", Check.STATE, PlaceTest::askedAhead, x -> x.train(1, 10, 1));
        Check.refuses("a section that a train is in", Check.STATE, Lines::astride, x -> x.train(1, 10, 1));
        Check.due("the section behind", askedAhead().train(2, 10, 1), 1);
        Check.due("the section ahead of its front", Lines.astride().train(2, 10, 1), 1);
    }

    private static void inAndHeld() {
        TrainGuard x = new TrainGuard();
        x.section(50, 20);
        x.section(50, 20);
        x.train(0, 50, 1);
        Check.due("the front at a section's begin is not in it", x.holds(1, 1), -1);
        Check.due("its own section", x.holds(0, 1), 0);
        x.start(0);
        Lines.seconds(x, 1, 1, 0);
        Check.due("the front past a section's begin is in it", x.holds(1, 1), 0);
        Check.due("but does not hold it", x.holds(1, 0), -1);
        Check.due("the rear before a section's end is in it", x.holds(0, 1), 0);
        Check.due("and holds it", x.holds(0, 0), 0);
        twoInOne();
    }

    /** Train 1 goes from section 0 into section 1, where train 0 stands. */
    private static void twoInOne() {
        TrainGuard x = new TrainGuard();
        x.section(50, 20);
        x.section(50, 20);
        x.train(1, 10, 1);
        x.train(0, 50, 1);
        x.start(1);
        x.second(1, 1, 0);
        Check.due("two are in: the least number", x.holds(1, 1), 0);
        Check.due("the holder stays", x.holds(1, 0), 0);
        Check.due("the second alone", x.holds(0, 1), 1);
    }

    private static void holdsRefusals() {
        int[][] bad = {{-1, 0}, {3, 0}, {0, -1}, {0, 2}, {3, 2}, {Integer.MAX_VALUE, 1}, {0, Integer.MIN_VALUE}};
        for (int[] row : bad) {
            Check.refuses("holds(" + row[0] + ", " + row[1] + ")", Check.ARGUMENT, Lines::standing,
                    x -> x.holds(row[0], row[1]));
        }
    }
}
