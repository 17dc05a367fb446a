import java.util.ArrayList;
import java.util.List;
import java.util.TreeMap;
import java.util.stream.LongStream;

/** The document once more, in whole numbers: places and speeds in 256ths, so that nothing can be rounded. */
final class Model {
    private static final long ONE = 256;

    private record Section(long begin, long end, long speed) {
    }

    private record Restriction(long from, long to, long speed) {
    }

    private record Message(boolean stops, long place) {
    }

    private static final class Train {
        private long length;
        private long brake;
        private long v;
        private long real;
        private long measured;
        private long margin;
        private Long authority;
        private boolean wet;
        private int mode = TrainGuard.STANDBY;
        private Message message;
        private int sent;
    }

    private final List<Section> sections = new ArrayList<>();
    private final List<Restriction> restrictions = new ArrayList<>();
    private final List<Train> trains = new ArrayList<>();
    private final TreeMap<Integer, Integer> held = new TreeMap<>();
    private int forged;
    private int braked;
    private int tripped;

    static long units(double x) {
        return Math.round(x * ONE);
    }

    Object section(double length, double speed) {
        argument(length >= 50 && length <= 1000 && speed >= 1 && speed <= 60);
        state(trains.isEmpty() && sections.size() < 10);
        sections.add(new Section(lineEnd(), lineEnd() + units(length), units(speed)));
        return sections.size() - 1;
    }

    Object restrict(double from, double to, double speed) {
        argument(from >= 0 && to > from && to <= 10000 && speed >= 1 && speed <= 60);
        state(restrictions.size() < 5);
        safety(trains.stream().allMatch(t -> t.mode == TrainGuard.STANDBY));
        restrictions.add(new Restriction(units(from), units(to), units(speed)));
        return restrictions.size();
    }

    Object release(int k) {
        argument(k >= 0 && k < restrictions.size());
        restrictions.remove(k);
        return restrictions.size();
    }

    Object train(int section, double length, double brake) {
        argument(section >= 0 && section < sections.size());
        argument(length >= 10 && length <= 50 && brake >= 0.5 && brake <= 2);
        state(trains.size() < 3 && !held.containsKey(section) && in(section).isEmpty());
        Train t = new Train();
        t.length = units(length);
        t.brake = units(brake);
        t.real = sections.get(section).begin + t.length;
        t.measured = t.real;
        held.put(section, trains.size());
        trains.add(t);
        return trains.size() - 1;
    }

    Object start(int train) {
        Train t = known(train);
        state(t.mode == TrainGuard.STANDBY);
        t.mode = t.authority != null && safeState(t, t.measured, t.margin, t.v) ? TrainGuard.FULL : TrainGuard.STAFF;
        return t.mode;
    }

    Object ask(int train, int section) {
        Train t = known(train);
        argument(section >= 0 && section < sections.size());
        int head = headOf(train);
        argument(section >= head);
        for (int s = head; s <= section; s++) {
            state(held.getOrDefault(s, train) == train);
            state(in(s).stream().allMatch(other -> other == train));
        }
        for (int s = head; s <= section; s++) {
            held.put(s, train);
        }
        t.message = new Message(false, sections.get(section).end);
        return ++t.sent;
    }

    Object stop(int train) {
        Train t = known(train);
        t.message = new Message(true, 0);
        return ++t.sent;
    }

    Object take(int train, int alter) {
        Train t = known(train);
        argument(alter >= 0 && alter < 1024);
        Message m = t.message;
        if (m == null) {
            throw new java.util.NoSuchElementException();
        }
        state(m.stops || t.mode != TrainGuard.TRIP);
        t.message = null;
        forged += alter == 0 ? 0 : 1;
        safety(alter == 0);
        if (m.stops) {
            t.authority = null;
            t.mode = t.mode == TrainGuard.FULL || t.mode == TrainGuard.STAFF ? TrainGuard.TRIP : t.mode;
            return 0;
        }
        safety(t.measured + t.margin + nineEighths(way(t, t.v, 0)) <= m.place);
        t.authority = m.place;
        if (t.mode == TrainGuard.STAFF && t.v == 0 && safeState(t, t.measured, t.margin, 0)) {
            t.mode = TrainGuard.FULL;
        }
        return 1;
    }

    Object second(int train, double a, int slip) {
        Train t = known(train);
        argument(a >= -2 && a <= 1 && slip >= -1 && slip <= 1);
        if (t.mode == TrainGuard.STANDBY || t.mode == TrainGuard.POST) {
            return t.mode;
        }
        long w = Math.max(0, t.v + units(a));
        long slower = Math.max(0, t.v - (t.wet ? t.brake / 2 : t.brake));
        boolean full = t.mode == TrainGuard.FULL;
        if (t.mode == TrainGuard.STAFF) {
            w = Math.min(w, 5 * ONE);
        } else if (t.mode == TrainGuard.TRIP) {
            w = slower;
        } else if (!safeState(t, t.measured + (t.v + w) / 2, t.margin + (t.v + w) / 16, w)) {
            w = slower;
            braked++;
        }
        go(t, w, slip);
        if (full && t.real > t.authority) {
            t.mode = TrainGuard.TRIP;
            t.authority = null;
            tripped++;
        }
        held.entrySet().removeIf(e -> e.getValue() == train && sections.get(e.getKey()).end <= t.real - t.length);
        return t.mode;
    }

    private void go(Train t, long w, int slip) {
        long way = (t.v + w) / 2;
        long before = t.real;
        t.measured += way;
        t.margin += way / 8;
        t.real += way + slip * way / 8;
        t.v = w;
        if (sections.stream().anyMatch(s -> before < s.begin && s.begin <= t.real)) {
            t.measured = t.real;
            t.margin = 0;
        }
        if (t.real >= lineEnd()) {
            t.real = lineEnd();
            t.measured = lineEnd();
            t.margin = 0;
            t.v = 0;
        }
    }

    Object wet(int train, boolean on) {
        known(train).wet = on;
        return 0;
    }

    Object acknowledge(int train) {
        Train t = known(train);
        if (t.mode == TrainGuard.TRIP) {
            state(t.v == 0);
            t.mode = TrainGuard.POST;
        } else {
            state(t.mode == TrainGuard.POST);
            t.mode = TrainGuard.STAFF;
        }
        return t.mode;
    }

    Object end(int train) {
        Train t = known(train);
        state(t.v == 0 && t.mode != TrainGuard.TRIP);
        t.mode = TrainGuard.STANDBY;
        t.authority = null;
        held.values().removeIf(holder -> holder == train);
        sectionsOf(train).forEach(s -> held.putIfAbsent(s, train));
        return 0;
    }

    Object of(int train, int what) {
        Train t = known(train);
        argument(what >= 0 && what < 6);
        long authority = t.authority == null ? -ONE : t.authority;
        return new long[] {t.real, t.measured, t.margin, t.v, authority, way(t, t.v, 0)}[what] / (double) ONE;
    }

    Object limit(double place) {
        argument(!sections.isEmpty() && place >= 0 && units(place) <= lineEnd());
        return limitAt(units(place)) / (double) ONE;
    }

    Object mode(int train) {
        return known(train).mode;
    }

    Object holds(int section, int what) {
        argument(section >= 0 && section < sections.size() && what >= 0 && what <= 1);
        return what == 0 ? held.getOrDefault(section, -1) : in(section).stream().findFirst().orElse(-1);
    }

    Object count(int what) {
        int[] all = {sections.size(), restrictions.size(), trains.size(), forged, braked, tripped};
        return what >= 0 && what < all.length ? all[what] : -1;
    }

    int headOf(int train) {
        List<Integer> own = sectionsOf(train);
        return own.isEmpty() ? 0 : own.get(own.size() - 1);
    }

    private Train known(int train) {
        argument(train >= 0 && train < trains.size());
        return trains.get(train);
    }

    private long lineEnd() {
        return sections.isEmpty() ? 0 : sections.get(sections.size() - 1).end;
    }

    private boolean isIn(Train t, Section s) {
        return s.begin < t.real && s.end > t.real - t.length;
    }

    private List<Integer> in(int section) {
        List<Integer> all = new ArrayList<>();
        for (int t = 0; t < trains.size(); t++) {
            if (isIn(trains.get(t), sections.get(section))) {
                all.add(t);
            }
        }
        return all;
    }

    private List<Integer> sectionsOf(int train) {
        List<Integer> all = new ArrayList<>();
        for (int s = 0; s < sections.size(); s++) {
            if (in(s).contains(train)) {
                all.add(s);
            }
        }
        return all;
    }

    private long limitAt(long place) {
        long own = sections.stream().filter(s -> s.begin <= place && (place < s.end || s.end == lineEnd()))
                .mapToLong(Section::speed).findFirst().orElseThrow();
        return restrictions.stream().filter(r -> r.from <= place && place < r.to)
                .mapToLong(Restriction::speed).reduce(own, Math::min);
    }

    private static long way(Train t, long v, long s) {
        long way = 0;
        while (v > s) {
            long w = Math.max(v - t.brake, s);
            way += (v + w) / 2;
            v = w;
        }
        return way;
    }

    private static long nineEighths(long way) {
        return way + way / 8;
    }

    private boolean safeState(Train t, long m, long k, long v) {
        LongStream places = LongStream.concat(sections.stream().mapToLong(Section::begin),
                restrictions.stream().mapToLong(Restriction::from));
        return m + k + nineEighths(way(t, v, 0)) <= t.authority
                && places.filter(x -> x > m + k && x <= lineEnd())
                        .allMatch(x -> m + k + nineEighths(way(t, v, limitAt(x))) <= x)
                && v <= limitAt(onLine(m + k)) && v <= limitAt(onLine(m - t.length));
    }

    private long onLine(long place) {
        return Math.max(0, Math.min(place, lineEnd()));
    }

    private static void argument(boolean good) {
        if (!good) {
            throw new IllegalArgumentException();
        }
    }

    private static void state(boolean good) {
        if (!good) {
            throw new IllegalStateException();
        }
    }

    private static void safety(boolean good) {
        if (!good) {
            throw new UnsupportedOperationException();
        }
    }
}
