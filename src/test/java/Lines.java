/** Objects to begin with, each made by few calls. */
final class Lines {
    private Lines() {
    }

    /** Sections 0 .. 100 .. 200 .. 400 with the speeds 20, 10, 30. */
    static TrainGuard three() {
        TrainGuard x = new TrainGuard();
        x.section(100, 20);
        x.section(100, 10);
        x.section(200, 30);
        return x;
    }

    /** With train 0, 20 long, brake 1, in section 0. */
    static TrainGuard standing() {
        TrainGuard x = three();
        x.train(0, 20, 1);
        return x;
    }

    static TrainGuard inStaff() {
        TrainGuard x = standing();
        x.start(0);
        return x;
    }

    /** With an AUTHORITY to the line's end. */
    static TrainGuard inFull() {
        TrainGuard x = standing();
        x.ask(0, 2);
        x.take(0, 0);
        x.start(0);
        return x;
    }

    static TrainGuard inTrip() {
        TrainGuard x = inFull();
        x.stop(0);
        x.take(0, 0);
        return x;
    }

    static TrainGuard inPost() {
        TrainGuard x = inTrip();
        x.acknowledge(0);
        return x;
    }

    /** Train 0, 50 long, is in sections 0 and 1 of four of 50; it holds 0 alone, and its HEAD is 1. */
    static TrainGuard astride() {
        TrainGuard x = new TrainGuard();
        for (int i = 0; i < 4; i++) {
            x.section(50, 20);
        }
        x.train(0, 50, 1);
        x.start(0);
        seconds(x, 1, 1, 0);
        return x;
    }

    static void seconds(TrainGuard x, int n, double a, int slip) {
        for (int i = 0; i < n; i++) {
            x.second(0, a, slip);
        }
    }
}
