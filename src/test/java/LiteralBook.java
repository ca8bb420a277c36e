import java.util.ArrayList;
import java.util.List;
import java.util.TreeMap;

/**
 * The document's rules word by word, minute by minute, as slow as they come: the random runs compare
 * PilotBook with it, so it shares neither code nor shortcuts with it.
 */
final class LiteralBook {
    private static final int MINUTES = 2880;

    private static final class Trip {
        int ship;
        int begin;
        int pilot;
        int berth;
        boolean out;
        int asked;

        int end() {
            return begin + 60;
        }
    }

    private final TreeMap<Integer, Integer> tide = new TreeMap<>();
    private final List<int[]> berths = new ArrayList<>();
    private final List<int[]> ships = new ArrayList<>();
    private final List<int[]> pilots = new ArrayList<>();
    private final List<Trip> trips = new ArrayList<>();
    private int bar = 1000;
    private int margin = 50;
    private int tugs = 4;

    private static void argument(boolean isRight) {
        if (!isRight) {
            throw new IllegalArgumentException();
        }
    }

    private static void index(boolean isRight) {
        if (!isRight) {
            throw new IndexOutOfBoundsException();
        }
    }

    private static void state(boolean isRight) {
        if (!isRight) {
            throw new IllegalStateException();
        }
    }

    private static boolean in(int x, int low, int high) {
        return low <= x && x <= high;
    }

    int addTide(int time, int height) {
        argument(in(time, 0, 2879) && in(height, -300, 900));
        state(!tide.containsKey(time) && tide.size() < 30 && trips.isEmpty());
        tide.put(time, height);
        return tide.size();
    }

    int height(int time) {
        argument(in(time, 0, 2879));
        if (tide.isEmpty()) {
            return 0;
        }
        if (tide.containsKey(time)) {
            return tide.get(time);
        }
        Integer earlier = tide.lowerKey(time);
        Integer later = tide.higherKey(time);
        if (earlier == null) {
            return tide.get(later);
        }
        if (later == null) {
            return tide.get(earlier);
        }
        int difference = tide.get(later) - tide.get(earlier);
        return tide.get(earlier) + difference * (time - earlier) / (later - earlier);
    }

    int setWater(int depth, int newMargin) {
        argument(in(depth, 300, 2500) && in(newMargin, 0, 500));
        int before = bar;
        bar = depth;
        margin = newMargin;
        return before;
    }

    int addBerth(int length, int depth) {
        argument(in(length, 20, 400) && in(depth, 300, 2500));
        state(berths.size() < 6);
        berths.add(new int[] {length, depth});
        return berths.size() - 1;
    }

    int addShip(int length, int draft) {
        argument(in(length, 20, 400) && in(draft, 100, 2000));
        state(ships.size() < 16);
        ships.add(new int[] {length, draft});
        return ships.size() - 1;
    }

    int load(int ship, int draft) {
        index(in(ship, 0, ships.size() - 1));
        argument(in(draft, 100, 2000));
        int before = ships.get(ship)[1];
        ships.get(ship)[1] = draft;
        return before;
    }

    int addPilot(int limit, boolean port) {
        argument(in(limit, 20, 400));
        state(pilots.size() < 6);
        pilots.add(new int[] {limit, port ? 1 : 0});
        return pilots.size() - 1;
    }

    int setTugs(int newTugs) {
        argument(in(newTugs, 0, 8));
        state(trips.isEmpty());
        int before = tugs;
        tugs = newTugs;
        return before;
    }

    int count(int what) {
        index(in(what, 0, 4));
        int[] counts = {tide.size(), berths.size(), ships.size(), pilots.size(), trips.size()};
        return counts[what];
    }

    int need(int ship) {
        index(in(ship, 0, ships.size() - 1));
        int draft = ships.get(ship)[1];
        return draft + draft / 10 + margin;
    }

    private void checkPlace(int ship, int berth, int time) {
        index(in(ship, 0, ships.size() - 1));
        index(berth == -1 || in(berth, 0, berths.size() - 1));
        argument(in(time, 0, 2879));
    }

    int window(int ship, int berth, int time) {
        checkPlace(ship, berth, time);
        for (int m = time; m < MINUTES; m++) {
            if ((berth == -1 ? bar : berths.get(berth)[1]) + height(m) >= need(ship)) {
                return m;
            }
        }
        return -1;
    }

    int least(int ship) {
        index(in(ship, 0, ships.size() - 1));
        Trip inbound = null;
        int last = 2879;
        for (Trip trip : trips) {
            if (trip.ship == ship && !trip.out) {
                inbound = trip;
                last = 2879;
            } else if (trip.ship == ship) {
                last = trip.begin;
            }
        }
        state(inbound != null);
        int least = Integer.MAX_VALUE;
        for (int m = inbound.end(); m <= last; m++) {
            least = Math.min(least, berths.get(inbound.berth)[1] + height(m) - ships.get(ship)[1]);
        }
        return least;
    }

    private int tugsOf(int ship) {
        int length = ships.get(ship)[0];
        return length >= 220 ? 3 : length >= 160 ? 2 : length >= 100 ? 1 : 0;
    }

    /** For each minute which ship has the berth, -1 if none; more than one would be a fault of the rules. */
    private int[] holders(int berth) {
        int[] holder = new int[MINUTES];
        java.util.Arrays.fill(holder, -1);
        for (int i = 0; i < trips.size(); i++) {
            Trip inbound = trips.get(i);
            if (inbound.out || inbound.berth != berth) {
                continue;
            }
            int until = MINUTES;
            for (int j = trips.size() - 1; j > i; j--) {
                if (trips.get(j).ship == inbound.ship && trips.get(j).out) {
                    until = trips.get(j).end();
                }
            }
            for (int m = inbound.begin; m < until; m++) {
                if (holder[m] != -1) {
                    throw new AssertionError("two ships at a berth");
                }
                holder[m] = inbound.ship;
            }
        }
        return holder;
    }

    private int[] usedTugs() {
        int[] used = new int[MINUTES];
        for (Trip trip : trips) {
            int from = trip.out ? trip.begin : trip.begin + 20;
            for (int m = from; m < from + 40; m++) {
                used[m] += tugsOf(trip.ship);
            }
        }
        return used;
    }

    private int pilotFor(int ship, boolean out, int m) {
        int best = -1;
        int bestEnd = 0;
        for (int p = 0; p < pilots.size(); p++) {
            int end = -1;
            boolean port = pilots.get(p)[1] == 1;
            boolean can = pilots.get(p)[0] >= ships.get(ship)[0];
            for (Trip trip : trips) {
                if (trip.pilot == p) {
                    can &= trip.begin < m;
                    if (trip.end() > end) {
                        end = trip.end();
                        port = !trip.out;
                    }
                }
            }
            if (end == -1) {
                can &= port == out || m >= 60;
            } else {
                can &= m - end >= 30 && (port == out || m - end >= 90);
            }
            if (can && (best == -1 || end < bestEnd)) {
                best = p;
                bestEnd = end;
            }
        }
        return best;
    }

    private Trip search(int ship, int berth, int time) {
        boolean out = berth == -1;
        Trip latest = null;
        for (Trip trip : trips) {
            if (trip.ship == ship) {
                latest = trip;
            }
        }
        if (out ? latest == null || latest.out : latest != null && !latest.out) {
            return null;
        }
        int place = out ? latest.berth : berth;
        int[] holder = holders(place);
        int lastForeign = -1;
        for (int m = 0; m < MINUTES; m++) {
            if (holder[m] != -1 && holder[m] != ship) {
                lastForeign = m;
            }
        }
        int[] used = usedTugs();
        for (int m = time; m + 60 <= 2879; m++) {
            if (latest != null && latest.end() > m) {
                continue;
            }
            int barTime = out ? m + 60 : m;
            int berthTime = out ? m : m + 60;
            boolean can = bar + height(barTime) >= need(ship)
                    && berths.get(place)[1] + height(berthTime) >= need(ship);
            if (!out) {
                can &= berths.get(place)[0] >= ships.get(ship)[0] && lastForeign < m;
            }
            for (Trip trip : trips) {
                boolean common = trip.begin < m + 60 && m < trip.begin + 60;
                can &= !(trip.out != out && common);
                can &= !(trip.out == out && Math.abs(trip.begin - m) < 20);
            }
            int from = out ? m : m + 20;
            for (int x = from; x < from + 40 && tugsOf(ship) > 0; x++) {
                can &= used[x] + tugsOf(ship) <= tugs;
            }
            if (!can) {
                continue;
            }
            int pilot = pilotFor(ship, out, m);
            if (pilot != -1) {
                Trip found = new Trip();
                found.ship = ship;
                found.begin = m;
                found.pilot = pilot;
                found.berth = place;
                found.out = out;
                found.asked = time;
                return found;
            }
        }
        return null;
    }

    int earliest(int ship, int berth, int time) {
        checkPlace(ship, berth, time);
        Trip found = search(ship, berth, time);
        return found == null ? -1 : found.begin;
    }

    int book(int ship, int berth, int time) {
        checkPlace(ship, berth, time);
        Trip found = search(ship, berth, time);
        state(found != null && trips.size() < 40);
        trips.add(found);
        return trips.size() - 1;
    }

    int cancel() {
        state(!trips.isEmpty());
        return trips.remove(trips.size() - 1).ship;
    }

    int passage(int passage, int what) {
        index(in(passage, 0, trips.size() - 1) && in(what, 0, 5));
        Trip trip = trips.get(passage);
        int[] facts = {trip.ship, trip.begin, trip.pilot, tugsOf(trip.ship), trip.berth, trip.out ? 1 : 0};
        return facts[what];
    }

    int occupant(int berth, int time) {
        index(in(berth, 0, berths.size() - 1));
        argument(in(time, 0, 2879));
        return holders(berth)[time];
    }

    int freeTugs(int time) {
        argument(in(time, 0, 2879));
        return tugs - usedTugs()[time];
    }

    int trips(int pilot) {
        index(in(pilot, 0, pilots.size() - 1));
        int found = 0;
        for (Trip trip : trips) {
            found += trip.pilot == pilot ? 1 : 0;
        }
        return found;
    }

    boolean isInPort(int pilot) {
        index(in(pilot, 0, pilots.size() - 1));
        boolean port = pilots.get(pilot)[1] == 1;
        int end = -1;
        for (Trip trip : trips) {
            if (trip.pilot == pilot && trip.end() > end) {
                end = trip.end();
                port = !trip.out;
            }
        }
        return port;
    }

    double delay() {
        double sum = 0;
        for (Trip trip : trips) {
            sum += trip.begin - trip.asked;
        }
        return trips.isEmpty() ? 0 : sum / trips.size();
    }

    long digest() {
        long d = 307;
        int[] first = {tide.size(), berths.size(), ships.size(), pilots.size(), trips.size(), bar, margin, tugs};
        for (int x : first) {
            d = d * 31 + x;
        }
        for (int ship = 0; ship < ships.size(); ship++) {
            d = (d * 31 + ships.get(ship)[1]) * 31 + need(ship);
        }
        for (int i = 0; i < trips.size(); i++) {
            for (int what = 0; what < 6; what++) {
                d = d * 31 + passage(i, what);
            }
        }
        return d;
    }
}
