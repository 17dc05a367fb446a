import java.util.NoSuchElementException;

/** Trains under a radio centre: the line, the centre's messages, and the guard in each train. */
public final class TrainGuard {
    public static final int STANDBY = 0;
    public static final int STAFF = 1;
    public static final int FULL = 2;
    public static final int TRIP = 3;
    public static final int POST = 4;

    private static final int MOST_SECTIONS = 10;
    private static final int MOST_RESTRICTIONS = 5;
    private static final int MOST_TRAINS = 3;
    private static final int FARTHEST_PLACE = 10000;
    private static final int LEAST_SPEED = 1;
    private static final int MOST_SPEED = 60;
    private static final int STAFF_SPEED = 5;
    private static final int MARK_MASK = 1023;
    private static final int NOBODY = -1;

    /** Far above the 122 seconds that the weakest brake needs from the greatest wish, 61, to 0. */
    private static final int MOST_BRAKING_SECONDS = 1000;

    private final Line line;
    private final Train[] trains;
    private int trainCount;
    private int forgedCount;
    private int guardBrakings;
    private int overruns;

    public TrainGuard() {
        line = new Line();
        trains = new Train[MOST_TRAINS];
        for (int i = 0; i < MOST_TRAINS; i++) {
            trains[i] = new Train();
        }
    }

    public int section(double length, double speed)
            throws IllegalArgumentException, NoSuchElementException, IllegalStateException, UnsupportedOperationException {
        demandArgument(isWithin(length, 50, 1000) && isSpeed(speed));
        demandState(trainCount == 0 && line.sectionCount < MOST_SECTIONS);
        return line.addSection(length, speed);
    }

    public int restrict(double from, double to, double speed)
            throws IllegalArgumentException, NoSuchElementException, IllegalStateException, UnsupportedOperationException {
        demandArgument(from >= 0 && to > from && to <= FARTHEST_PLACE && isSpeed(speed));
        demandState(line.restrictionCount < MOST_RESTRICTIONS);
        demandSafety(allStandBy());
        return line.addRestriction(from, to, speed);
    }

    public int release(int k)
            throws IllegalArgumentException, NoSuchElementException, IllegalStateException, UnsupportedOperationException {
        demandArgument(k >= 0 && k < line.restrictionCount);
        return line.removeRestriction(k);
    }

    public int train(int section, double length, double brake)
            throws IllegalArgumentException, NoSuchElementException, IllegalStateException, UnsupportedOperationException {
        demandArgument(line.hasSection(section) && isWithin(length, 10, 50) && isWithin(brake, 0.5, 2));
        demandArgument(length <= line.lengthOf(section));
        demandState(trainCount < MOST_TRAINS && isFreeFor(NOBODY, section));
        int number = trainCount;
        trainCount++;
        trains[number].putAt(line.beginOf(section), length, brake);
        line.holders[section] = number;
        return number;
    }

    public int start(int train)
            throws IllegalArgumentException, NoSuchElementException, IllegalStateException, UnsupportedOperationException {
        Train t = trainNumbered(train);
        demandState(t.mode == STANDBY);
        t.mode = t.isSafeNow(line) ? FULL : STAFF;
        return t.mode;
    }

    public int ask(int train, int section)
            throws IllegalArgumentException, NoSuchElementException, IllegalStateException, UnsupportedOperationException {
        Train t = trainNumbered(train);
        demandArgument(line.hasSection(section));
        int head = headOf(t);
        demandArgument(section >= head);
        for (int i = head; i <= section; i++) {
            demandState(isFreeFor(train, i));
        }
        for (int i = head; i <= section; i++) {
            line.holders[i] = train;
        }
        return t.message.send(false, line.endOf(section));
    }

    public int stop(int train)
            throws IllegalArgumentException, NoSuchElementException, IllegalStateException, UnsupportedOperationException {
        return trainNumbered(train).message.send(true, 0);
    }

    public int take(int train, int alter)
            throws IllegalArgumentException, NoSuchElementException, IllegalStateException, UnsupportedOperationException {
        Train t = trainNumbered(train);
        demandArgument(alter >= 0 && alter <= MARK_MASK);
        Message message = t.message;
        demandMessage(message.isWaiting);
        demandState(message.isStop || t.mode != TRIP);
        message.isWaiting = false;
        if (!message.isGenuine(alter)) {
            forgedCount++;
            throw new UnsupportedOperationException();
        }
        if (message.isStop) {
            t.obeyStop();
            return 0;
        }
        demandSafety(t.canStopAt(message.place));
        t.accept(message.place, line);
        return 1;
    }

    public int second(int train, double a, int slip)
            throws IllegalArgumentException, NoSuchElementException, IllegalStateException, UnsupportedOperationException {
        Train t = trainNumbered(train);
        demandArgument(isWithin(a, -2, 1) && slip >= -1 && slip <= 1);
        if (t.mode == STANDBY || t.mode == POST) {
            return t.mode;
        }
        boolean beganInFull = t.mode == FULL;
        if (t.runSecond(line, a, slip)) {
            guardBrakings++;
        }
        if (beganInFull && t.mode == TRIP) {
            overruns++;
        }
        line.freeBelow(t.rear(), train);
        return t.mode;
    }

    public int wet(int train, boolean on)
            throws IllegalArgumentException, NoSuchElementException, IllegalStateException, UnsupportedOperationException {
        trainNumbered(train).isWet = on;
        return 0;
    }

    public int acknowledge(int train)
            throws IllegalArgumentException, NoSuchElementException, IllegalStateException, UnsupportedOperationException {
        Train t = trainNumbered(train);
        demandState(t.mode == POST || t.mode == TRIP && t.stands());
        t.mode = t.mode == TRIP ? POST : STAFF;
        return t.mode;
    }

    public int end(int train)
            throws IllegalArgumentException, NoSuchElementException, IllegalStateException, UnsupportedOperationException {
        Train t = trainNumbered(train);
        demandState(t.mode != TRIP && t.stands());
        t.mode = STANDBY;
        t.hasAuthority = false;
        holdOwnPlacesOnly(train);
        return 0;
    }

    public double of(int train, int what)
            throws IllegalArgumentException, NoSuchElementException, IllegalStateException, UnsupportedOperationException {
        Train t = trainNumbered(train);
        demandArgument(what >= 0 && what <= 5);
        switch (what) {
            case 0:
                return t.real;
            case 1:
                return t.measured;
            case 2:
                return t.margin;
            case 3:
                return t.speed;
            case 4:
                return t.hasAuthority ? t.authority : -1.0;
            default:
                return t.brakingWay(t.speed, 0);
        }
    }

    public double limit(double place)
            throws IllegalArgumentException, NoSuchElementException, IllegalStateException, UnsupportedOperationException {
        demandArgument(line.sectionCount > 0 && isWithin(place, 0, line.lineEnd()));
        return line.limitAt(place);
    }

    public int mode(int train)
            throws IllegalArgumentException, NoSuchElementException, IllegalStateException, UnsupportedOperationException {
        return trainNumbered(train).mode;
    }

    public int holds(int section, int what)
            throws IllegalArgumentException, NoSuchElementException, IllegalStateException, UnsupportedOperationException {
        demandArgument(line.hasSection(section) && (what == 0 || what == 1));
        return what == 0 ? line.holders[section] : firstTrainIn(section, NOBODY);
    }

    public int count(int what) {
        switch (what) {
            case 0:
                return line.sectionCount;
            case 1:
                return line.restrictionCount;
            case 2:
                return trainCount;
            case 3:
                return forgedCount;
            case 4:
                return guardBrakings;
            case 5:
                return overruns;
            default:
                return -1;
        }
    }

    private Train trainNumbered(int number) {
        demandArgument(number >= 0 && number < trainCount);
        return trains[number];
    }

    private boolean allStandBy() {
        for (int i = 0; i < trainCount; i++) {
            if (trains[i].mode != STANDBY) {
                return false;
            }
        }
        return true;
    }

    private boolean isIn(Train t, int section) {
        return line.beginOf(section) < t.real && line.endOf(section) > t.rear();
    }

    private int headOf(Train t) {
        int head = 0;
        for (int i = 0; i < line.sectionCount; i++) {
            if (isIn(t, i)) {
                head = i;
            }
        }
        return head;
    }

    private int firstTrainIn(int section, int except) {
        for (int i = 0; i < trainCount; i++) {
            if (i != except && isIn(trains[i], section)) {
                return i;
            }
        }
        return NOBODY;
    }

    private boolean isFreeFor(int train, int section) {
        int holder = line.holders[section];
        return (holder == NOBODY || holder == train) && firstTrainIn(section, train) == NOBODY;
    }

    private void holdOwnPlacesOnly(int train) {
        for (int i = 0; i < line.sectionCount; i++) {
            if (line.holders[i] == train || line.holders[i] == NOBODY) {
                line.holders[i] = isIn(trains[train], i) ? train : NOBODY;
            }
        }
    }

    /** Refuses NaN too, as no comparison with it holds. */
    private static boolean isWithin(double x, double least, double most) {
        return x >= least && x <= most;
    }

    private static boolean isSpeed(double x) {
        return isWithin(x, LEAST_SPEED, MOST_SPEED);
    }

    private static void demandArgument(boolean isGood) {
        if (!isGood) {
            throw new IllegalArgumentException();
        }
    }

    private static void demandMessage(boolean isThere) {
        if (!isThere) {
            throw new NoSuchElementException();
        }
    }

    private static void demandState(boolean isGood) {
        if (!isGood) {
            throw new IllegalStateException();
        }
    }

    private static void demandSafety(boolean isSafe) {
        if (!isSafe) {
            throw new UnsupportedOperationException();
        }
    }

    /** The sections with who holds them, and the restrictions. */
    private static final class Line {
        /** One place more than sections: the line's end stands behind the last begin. */
        private final double[] begins = new double[MOST_SECTIONS + 1];
        private final double[] speeds = new double[MOST_SECTIONS];
        private final int[] holders = new int[MOST_SECTIONS];
        private final double[] froms = new double[MOST_RESTRICTIONS];
        private final double[] tos = new double[MOST_RESTRICTIONS];
        private final double[] caps = new double[MOST_RESTRICTIONS];
        private int sectionCount;
        private int restrictionCount;

        int addSection(double length, double speed) {
            int number = sectionCount;
            speeds[number] = speed;
            holders[number] = NOBODY;
            begins[number + 1] = begins[number] + length;
            sectionCount++;
            return number;
        }

        int addRestriction(double from, double to, double cap) {
            froms[restrictionCount] = from;
            tos[restrictionCount] = to;
            caps[restrictionCount] = cap;
            restrictionCount++;
            return restrictionCount;
        }

        int removeRestriction(int k) {
            restrictionCount--;
            for (int i = k; i < restrictionCount; i++) {
                froms[i] = froms[i + 1];
                tos[i] = tos[i + 1];
                caps[i] = caps[i + 1];
            }
            return restrictionCount;
        }

        boolean hasSection(int number) {
            return number >= 0 && number < sectionCount;
        }

        double beginOf(int number) {
            return begins[number];
        }

        double endOf(int number) {
            return begins[number + 1];
        }

        double lengthOf(int number) {
            return endOf(number) - beginOf(number);
        }

        double lineEnd() {
            return begins[sectionCount];
        }

        /** The limit at a place from 0 to the line's end, of a line with sections. */
        double limitAt(double place) {
            double least = speeds[0];
            for (int i = 1; i < sectionCount; i++) {
                if (begins[i] <= place) {
                    least = speeds[i];
                }
            }
            for (int i = 0; i < restrictionCount; i++) {
                if (froms[i] <= place && tos[i] > place && caps[i] < least) {
                    least = caps[i];
                }
            }
            return least;
        }

        /** The limit at a measured place, which may lie off the line. */
        double limitNear(double place) {
            if (place < 0) {
                return limitAt(0);
            }
            return limitAt(place > lineEnd() ? lineEnd() : place);
        }

        /** How many places there are where the limit may fall: the sections' begins, then the restrictions' froms. */
        int changeCount() {
            return sectionCount + restrictionCount;
        }

        double changeAt(int i) {
            return i < sectionCount ? begins[i] : froms[i - sectionCount];
        }

        boolean hasBeginBetween(double above, double upTo) {
            for (int i = 0; i < sectionCount; i++) {
                if (begins[i] > above && begins[i] <= upTo) {
                    return true;
                }
            }
            return false;
        }

        void freeBelow(double rear, int train) {
            for (int i = 0; i < sectionCount; i++) {
                if (holders[i] == train && endOf(i) <= rear) {
                    holders[i] = NOBODY;
                }
            }
        }
    }

    /** What the centre has for one train; used again for each message. */
    private static final class Message {
        private boolean isWaiting;
        private boolean isStop;
        private int number;
        private double place;
        private int mark;

        int send(boolean stops, double where) {
            isWaiting = true;
            isStop = stops;
            number++;
            place = where;
            mark = dueMark();
            return number;
        }

        boolean isGenuine(int alter) {
            return (mark ^ alter) == dueMark();
        }

        private int dueMark() {
            return (31 * number + (int) (place * 8)) & MARK_MASK;
        }
    }

    /** One train and its guard. */
    private static final class Train {
        private final Message message = new Message();
        private double length;
        private double brake;
        private double speed;
        private double real;
        private double measured;
        private double margin;
        private double authority;
        private boolean hasAuthority;
        private boolean isWet;
        private int mode;

        void putAt(double rear, double ownLength, double ownBrake) {
            length = ownLength;
            brake = ownBrake;
            real = rear + ownLength;
            measured = real;
        }

        double rear() {
            return real - length;
        }

        boolean stands() {
            return speed == 0;
        }

        void obeyStop() {
            hasAuthority = false;
            if (mode == FULL || mode == STAFF) {
                mode = TRIP;
            }
        }

        void accept(double place, Line line) {
            authority = place;
            hasAuthority = true;
            if (mode == STAFF && stands() && isSafeNow(line)) {
                mode = FULL;
            }
        }

        boolean canStopAt(double place) {
            return isSafe(place, measured + margin, speed, 0);
        }

        boolean isSafeNow(Line line) {
            return isSafeState(line, measured, margin, speed);
        }

        /** The document's D: the brake is the dry one, also for a wet train. */
        double brakingWay(double from, double to) {
            double way = 0;
            double u = from;
            for (int i = 0; i < MOST_BRAKING_SECONDS && u > to; i++) {
                double w = u - brake > to ? u - brake : to;
                way += (u + w) * 0.5;
                u = w;
            }
            return way;
        }

        /** One second of a train that may move; answers whether its guard braked. */
        boolean runSecond(Line line, double a, int slip) {
            double wish = wishedSpeed(a);
            boolean brakes = mode == FULL && !isSafeBehind(line, wish);
            move(line, brakes || mode == TRIP ? brakedSpeed() : wish, slip);
            if (mode == FULL && real > authority) {
                mode = TRIP;
                hasAuthority = false;
            }
            return brakes;
        }

        private double wishedSpeed(double a) {
            double wish = speed + a;
            if (wish < 0) {
                return 0;
            }
            return mode == STAFF && wish > STAFF_SPEED ? STAFF_SPEED : wish;
        }

        private double brakedSpeed() {
            double less = speed - (isWet ? brake * 0.5 : brake);
            return less > 0 ? less : 0;
        }

        private double wayTo(double next) {
            return (speed + next) * 0.5;
        }

        private boolean isSafeBehind(Line line, double wish) {
            double way = wayTo(wish);
            return isSafeState(line, measured + way, margin + 0.125 * way, wish);
        }

        private void move(Line line, double next, int slip) {
            double way = wayTo(next);
            double before = real;
            measured += way;
            margin += 0.125 * way;
            real += way * (1 + 0.125 * slip);
            speed = next;
            if (line.hasBeginBetween(before, real)) {
                measured = real;
                margin = 0;
            }
            if (real >= line.lineEnd()) {
                real = line.lineEnd();
                measured = real;
                margin = 0;
                speed = 0;
            }
        }

        private boolean isSafe(double place, double front, double v, double s) {
            return front + 1.125 * brakingWay(v, s) <= place;
        }

        private boolean isSafeState(Line line, double m, double k, double v) {
            double front = m + k;
            return hasAuthority && isSafe(authority, front, v, 0)
                    && v <= line.limitNear(front) && v <= line.limitNear(m - length)
                    && meetsLimitsAhead(line, front, v);
        }

        private boolean meetsLimitsAhead(Line line, double front, double v) {
            for (int i = 0; i < line.changeCount(); i++) {
                double place = line.changeAt(i);
                boolean liesAhead = place > front && place <= line.lineEnd();
                if (liesAhead && !isSafe(place, front, v, line.limitAt(place))) {
                    return false;
                }
            }
            return true;
        }
    }
}
