import java.util.ArrayList;

/** A book of harbour pilotage: each passage is booked at the earliest minute at which all of it is possible. */
public final class PilotBook {
    private static final int LAST_MINUTE = 2879;
    private static final int MAX_POINTS = 30;
    private static final int LOWEST_TIDE = -300;
    private static final int HIGHEST_TIDE = 900;

    private static final int MIN_DEPTH = 300;
    private static final int MAX_DEPTH = 2500;
    private static final int MAX_MARGIN = 500;
    private static final int MIN_LENGTH = 20;
    private static final int MAX_LENGTH = 400;
    private static final int MIN_DRAFT = 100;
    private static final int MAX_DRAFT = 2000;

    private static final int MAX_BERTHS = 6;
    private static final int MAX_SHIPS = 16;
    private static final int MAX_PILOTS = 6;
    private static final int MAX_TUGS = 8;
    private static final int MAX_PASSAGES = 40;

    private static final int PASSAGE_MINUTES = 60;
    private static final int TUG_MINUTES = 40;
    private static final int SAME_WAY_GAP = 20;
    private static final int PILOT_REST = 30;
    private static final int PILOT_CROSSING = 60;

    private static final int NO_BERTH = -1;
    private static final int NONE = -1;
    // Later than every minute, so that no passage begins when a berth is held for ever.
    private static final int FOREVER = LAST_MINUTE + 1;

    private final Tide tide = new Tide();
    private final ArrayList<Berth> berths = new ArrayList<>();
    private final ArrayList<Ship> ships = new ArrayList<>();
    private final ArrayList<Pilot> pilots = new ArrayList<>();
    private final ArrayList<Passage> passages = new ArrayList<>();
    private int barDepth = 1000;
    private int margin = 50;
    private int tugs = 4;

    public PilotBook() {
    }

    // ---- tide, berths, ships, pilots, tugs

    public int addTide(int time, int height) throws IllegalArgumentException, IllegalStateException {
        checkTime(time);
        checkRange(height, LOWEST_TIDE, HIGHEST_TIDE);
        if (!passages.isEmpty() || tide.size >= MAX_POINTS || tide.hasPointAt(time)) {
            throw new IllegalStateException("the point can't be added now");
        }
        tide.insert(time, height);
        return tide.size;
    }

    public int height(int time) throws IllegalArgumentException {
        checkTime(time);
        return tide.heightAt(time);
    }

    public int setWater(int depth, int margin) throws IllegalArgumentException {
        checkRange(depth, MIN_DEPTH, MAX_DEPTH);
        checkRange(margin, 0, MAX_MARGIN);
        int before = barDepth;
        barDepth = depth;
        this.margin = margin;
        return before;
    }

    public int addBerth(int length, int depth) throws IllegalArgumentException, IllegalStateException {
        checkRange(length, MIN_LENGTH, MAX_LENGTH);
        checkRange(depth, MIN_DEPTH, MAX_DEPTH);
        int number = berths.size();
        checkRoom(number, MAX_BERTHS);
        berths.add(new Berth(number, length, depth));
        return number;
    }

    public int addShip(int length, int draft) throws IllegalArgumentException, IllegalStateException {
        checkRange(length, MIN_LENGTH, MAX_LENGTH);
        checkRange(draft, MIN_DRAFT, MAX_DRAFT);
        int number = ships.size();
        checkRoom(number, MAX_SHIPS);
        ships.add(new Ship(number, length, draft));
        return number;
    }

    public int load(int ship, int draft) throws IndexOutOfBoundsException, IllegalArgumentException {
        checkNumber(ship, ships.size());
        checkRange(draft, MIN_DRAFT, MAX_DRAFT);
        Ship loaded = ships.get(ship);
        int before = loaded.draft;
        loaded.draft = draft;
        return before;
    }

    public int addPilot(int limit, boolean isInPort) throws IllegalArgumentException, IllegalStateException {
        checkRange(limit, MIN_LENGTH, MAX_LENGTH);
        int number = pilots.size();
        checkRoom(number, MAX_PILOTS);
        pilots.add(new Pilot(number, limit, isInPort));
        return number;
    }

    public int setTugs(int tugs) throws IllegalArgumentException, IllegalStateException {
        checkRange(tugs, 0, MAX_TUGS);
        if (!passages.isEmpty()) {
            throw new IllegalStateException("a passage is booked");
        }
        int before = this.tugs;
        this.tugs = tugs;
        return before;
    }

    public int count(int what) throws IndexOutOfBoundsException {
        switch (what) {
            case 0:
                return tide.size;
            case 1:
                return berths.size();
            case 2:
                return ships.size();
            case 3:
                return pilots.size();
            case 4:
                return passages.size();
            default:
                throw new IndexOutOfBoundsException("what is not 0 to 4");
        }
    }

    // ---- water

    public int need(int ship) throws IndexOutOfBoundsException {
        checkNumber(ship, ships.size());
        return waterNeed(ships.get(ship));
    }

    public int window(int ship, int berth, int time) throws IndexOutOfBoundsException, IllegalArgumentException {
        checkCall(ship, berth, time);
        Ship asking = ships.get(ship);
        int depth = berth == NO_BERTH ? barDepth : berths.get(berth).depth;
        for (int minute = time; minute <= LAST_MINUTE; minute++) {
            if (hasWater(asking, depth, minute)) {
                return minute;
            }
        }
        return NONE;
    }

    public int least(int ship) throws IndexOutOfBoundsException, IllegalStateException {
        checkNumber(ship, ships.size());
        Passage latest = ships.get(ship).latest;
        boolean hasLeft = latest != null && latest.route.isOutbound;
        Passage inbound = hasLeft ? latest.shipBefore : latest;
        if (inbound == null) {
            throw new IllegalStateException("the ship had no inbound passage");
        }
        return leastWater(inbound.route, inbound.end(), hasLeft ? latest.begin : LAST_MINUTE);
    }

    // ---- passages

    public int earliest(int ship, int berth, int time) throws IndexOutOfBoundsException, IllegalArgumentException {
        checkCall(ship, berth, time);
        Route route = routeOf(ship, berth);
        return route == null ? NONE : firstBegin(route, time);
    }

    public int book(int ship, int berth, int time)
            throws IndexOutOfBoundsException, IllegalArgumentException, IllegalStateException {
        checkCall(ship, berth, time);
        int number = passages.size();
        checkRoom(number, MAX_PASSAGES);
        Route route = routeOf(ship, berth);
        if (route == null) {
            throw new IllegalStateException("the ship can't go that way now");
        }
        int begin = firstBegin(route, time);
        Pilot pilot = begin == NONE ? null : pilotFor(route, begin);
        if (pilot == null) {
            throw new IllegalStateException("there is no minute for the passage");
        }
        enter(new Passage(route, time, begin, pilot));
        return number;
    }

    public int cancel() throws IllegalStateException {
        int last = passages.size() - 1;
        if (last < 0) {
            throw new IllegalStateException("no passage is booked");
        }
        Passage taken = passages.remove(last);
        Ship ship = taken.route.ship;
        ship.latest = taken.shipBefore;
        taken.pilot.latest = taken.pilotBefore;
        if (taken.route.isOutbound && taken.shipBefore != null) {
            taken.shipBefore.berthUntil = FOREVER;
        }
        return ship.number;
    }

    public int passage(int passage, int what) throws IndexOutOfBoundsException {
        checkNumber(passage, passages.size());
        Passage told = passages.get(passage);
        switch (what) {
            case 0:
                return told.route.ship.number;
            case 1:
                return told.begin;
            case 2:
                return told.pilot.number;
            case 3:
                return told.route.tugs;
            case 4:
                return told.route.berth.number;
            case 5:
                return told.route.isOutbound ? 1 : 0;
            default:
                throw new IndexOutOfBoundsException("what is not 0 to 5");
        }
    }

    public int occupant(int berth, int time) throws IndexOutOfBoundsException, IllegalArgumentException {
        checkNumber(berth, berths.size());
        checkTime(time);
        for (int i = 0; i < passages.size(); i++) {
            Passage booked = passages.get(i);
            if (booked.route.berth.number == berth && booked.holdsBerthAt(time)) {
                return booked.route.ship.number;
            }
        }
        return NONE;
    }

    public int freeTugs(int time) throws IllegalArgumentException {
        checkTime(time);
        return tugs - tugsInUse(time);
    }

    public int trips(int pilot) throws IndexOutOfBoundsException {
        checkNumber(pilot, pilots.size());
        int found = 0;
        for (int i = 0; i < passages.size(); i++) {
            if (passages.get(i).pilot.number == pilot) {
                found++;
            }
        }
        return found;
    }

    public boolean isInPort(int pilot) throws IndexOutOfBoundsException {
        checkNumber(pilot, pilots.size());
        return pilots.get(pilot).endsInPort();
    }

    public double delay() {
        int booked = passages.size();
        if (booked == 0) {
            return 0;
        }
        int waited = 0;
        for (int i = 0; i < booked; i++) {
            Passage one = passages.get(i);
            waited += one.begin - one.askedFrom;
        }
        return (double) waited / booked;
    }

    public long digest() {
        long d = 307;
        for (int what = 0; what <= 4; what++) {
            d = d * 31 + count(what);
        }
        d = d * 31 + barDepth;
        d = d * 31 + margin;
        d = d * 31 + tugs;
        for (int i = 0; i < ships.size(); i++) {
            Ship ship = ships.get(i);
            d = d * 31 + ship.draft;
            d = d * 31 + waterNeed(ship);
        }
        for (int i = 0; i < passages.size(); i++) {
            for (int what = 0; what <= 5; what++) {
                d = d * 31 + passage(i, what);
            }
        }
        return d;
    }

    // ---- what the calls are given

    private static void checkRange(int value, int low, int high) {
        if (value < low || value > high) {
            throw new IllegalArgumentException("a value is out of its range");
        }
    }

    private static void checkTime(int time) {
        checkRange(time, 0, LAST_MINUTE);
    }

    private static void checkNumber(int number, int size) {
        if (number < 0 || number >= size) {
            throw new IndexOutOfBoundsException("there is nothing with this number");
        }
    }

    private static void checkRoom(int size, int limit) {
        if (size >= limit) {
            throw new IllegalStateException("there is no room for one more");
        }
    }

    private void checkCall(int ship, int berth, int time) {
        checkNumber(ship, ships.size());
        if (berth != NO_BERTH) {
            checkNumber(berth, berths.size());
        }
        checkTime(time);
    }

    // ---- the water beneath a ship

    private int waterNeed(Ship ship) {
        return ship.draft + ship.draft / 10 + margin;
    }

    private boolean hasWater(Ship ship, int depth, int minute) {
        return depth + tide.heightAt(minute) >= waterNeed(ship);
    }

    private int leastWater(Route route, int from, int to) {
        int lowest = tide.heightAt(from);
        for (int minute = from + 1; minute <= to; minute++) {
            lowest = Math.min(lowest, tide.heightAt(minute));
        }
        return route.berth.depth + lowest - route.ship.draft;
    }

    // ---- when a passage can begin

    /** The way that a ship is to go, or null if its latest passage did not leave it where this way begins. */
    private Route routeOf(int ship, int berth) {
        Ship going = ships.get(ship);
        Passage latest = going.latest;
        boolean isAtSea = latest == null || latest.route.isOutbound;
        if (berth != NO_BERTH) {
            return isAtSea ? new Route(going, berths.get(berth), false) : null;
        }
        return isAtSea ? null : new Route(going, latest.route.berth, true);
    }

    private int firstBegin(Route route, int time) {
        if (route.ship.length > route.berth.length) {
            return NONE;
        }
        int from = Math.max(time, freeFrom(route));
        for (int begin = from; begin + PASSAGE_MINUTES <= LAST_MINUTE; begin++) {
            if (canBegin(route, begin)) {
                return begin;
            }
        }
        return NONE;
    }

    /** The first minute from which neither the ship's latest passage nor another ship at the berth is in the way. */
    private int freeFrom(Route route) {
        Passage latest = route.ship.latest;
        int from = latest == null ? 0 : latest.end();
        if (route.isOutbound) {
            return from;
        }
        for (int i = 0; i < passages.size(); i++) {
            Passage booked = passages.get(i);
            // The ship's own stays need no look: its latest passage ended behind all of them.
            if (booked.route.berth.number == route.berth.number) {
                from = Math.max(from, booked.berthUntil);
            }
        }
        return from;
    }

    private boolean canBegin(Route route, int begin) {
        return hasClearWay(route, begin)
                && hasWater(route.ship, barDepth, route.barMinute(begin))
                && hasWater(route.ship, route.berth.depth, route.berthMinute(begin))
                && hasTugs(route, begin)
                && pilotFor(route, begin) != null;
    }

    private boolean hasClearWay(Route route, int begin) {
        for (int i = 0; i < passages.size(); i++) {
            Passage booked = passages.get(i);
            int gap = booked.route.isOutbound == route.isOutbound ? SAME_WAY_GAP : PASSAGE_MINUTES;
            if (Math.abs(booked.begin - begin) < gap) {
                return false;
            }
        }
        return true;
    }

    private boolean hasTugs(Route route, int begin) {
        int first = route.tugsFrom(begin);
        int spare = tugs - route.tugs;
        if (tugsInUse(first) > spare) {
            return false;
        }
        for (int i = 0; i < passages.size(); i++) {
            // More tugs come into use only where a booked passage begins to need its own.
            int rise = passages.get(i).tugsFrom();
            if (rise > first && rise < first + TUG_MINUTES && tugsInUse(rise) > spare) {
                return false;
            }
        }
        return true;
    }

    private int tugsInUse(int minute) {
        int used = 0;
        for (int i = 0; i < passages.size(); i++) {
            Passage booked = passages.get(i);
            int first = booked.tugsFrom();
            if (minute >= first && minute < first + TUG_MINUTES) {
                used += booked.route.tugs;
            }
        }
        return used;
    }

    /** The pilot that takes a passage, or null if none can. */
    private Pilot pilotFor(Route route, int begin) {
        Pilot best = null;
        for (int i = 0; i < pilots.size(); i++) {
            Pilot pilot = pilots.get(i);
            if (pilot.canTake(route, begin) && (best == null || pilot.latestEnd() < best.latestEnd())) {
                best = pilot;
            }
        }
        return best;
    }

    private void enter(Passage passage) {
        passages.add(passage);
        if (passage.route.isOutbound && passage.shipBefore != null) {
            passage.shipBefore.berthUntil = passage.end();
        }
        passage.route.ship.latest = passage;
        passage.pilot.latest = passage;
    }

    /** The points of the tide, in the order of their times. */
    private static final class Tide {
        private final int[] times = new int[MAX_POINTS];
        private final int[] heights = new int[MAX_POINTS];
        private int size = 0;

        Tide() {
        }

        /** The number of the points at a time or ahead of it. */
        int pointsUpTo(int time) {
            int points = 0;
            while (points < size && times[points] <= time) {
                points++;
            }
            return points;
        }

        boolean hasPointAt(int time) {
            int points = pointsUpTo(time);
            return points > 0 && times[points - 1] == time;
        }

        void insert(int time, int height) {
            if (size >= MAX_POINTS) {
                return;
            }
            int place = pointsUpTo(time);
            for (int i = size; i > place; i--) {
                times[i] = times[i - 1];
                heights[i] = heights[i - 1];
            }
            times[place] = time;
            heights[place] = height;
            size++;
        }

        int heightAt(int time) {
            if (size == 0) {
                return 0;
            }
            int next = pointsUpTo(time);
            if (next == 0) {
                return heights[0];
            }
            int earlier = next - 1;
            if (next == size) {
                return heights[earlier];
            }
            int span = times[next] - times[earlier];
            int rise = (heights[next] - heights[earlier]) * (time - times[earlier]);
            return span > 0 ? heights[earlier] + rise / span : heights[earlier];
        }
    }

    private static final class Berth {
        private final int number;
        private final int length;
        private final int depth;

        Berth(int number, int length, int depth) {
            this.number = number;
            this.length = length;
            this.depth = depth;
        }
    }

    private static final class Ship {
        private final int number;
        private final int length;
        private int draft;
        private Passage latest = null;

        Ship(int number, int length, int draft) {
            this.number = number;
            this.length = length;
            this.draft = draft;
        }
    }

    private static final class Pilot {
        private final int number;
        private final int limit;
        private final boolean startsInPort;
        private Passage latest = null;

        Pilot(int number, int limit, boolean startsInPort) {
            this.number = number;
            this.limit = limit;
            this.startsInPort = startsInPort;
        }

        boolean endsInPort() {
            return latest == null ? startsInPort : !latest.route.isOutbound;
        }

        /** When its latest passage ended; ahead of all minutes if it had none. */
        int latestEnd() {
            return latest == null ? NONE : latest.end();
        }

        boolean canTake(Route route, int begin) {
            if (limit < route.ship.length) {
                return false;
            }
            int crossing = endsInPort() == route.isOutbound ? 0 : PILOT_CROSSING;
            // A pilot's passages are booked in the order of time: behind its latest one there is none.
            return latest == null ? begin >= crossing : begin >= latest.end() + PILOT_REST + crossing;
        }
    }

    /** A ship's way between the sea and a berth, whenever it may be. */
    private static final class Route {
        private final Ship ship;
        private final Berth berth;
        private final boolean isOutbound;
        private final int tugs;

        Route(Ship ship, Berth berth, boolean isOutbound) {
            this.ship = ship;
            this.berth = berth;
            this.isOutbound = isOutbound;
            this.tugs = tugsForLength(ship.length);
        }

        private static int tugsForLength(int length) {
            if (length < 100) {
                return 0;
            }
            if (length < 160) {
                return 1;
            }
            return length < 220 ? 2 : 3;
        }

        int barMinute(int begin) {
            return isOutbound ? begin + PASSAGE_MINUTES : begin;
        }

        int berthMinute(int begin) {
            return isOutbound ? begin : begin + PASSAGE_MINUTES;
        }

        int tugsFrom(int begin) {
            return isOutbound ? begin : begin + PASSAGE_MINUTES - TUG_MINUTES;
        }
    }

    private static final class Passage {
        private final Route route;
        private final int askedFrom;
        private final int begin;
        private final Pilot pilot;
        // What cancel() makes the latest again.
        private final Passage shipBefore;
        private final Passage pilotBefore;
        // The first minute at which the ship no longer has the berth by this passage; an outbound one gives it none.
        private int berthUntil;

        Passage(Route route, int askedFrom, int begin, Pilot pilot) {
            this.route = route;
            this.askedFrom = askedFrom;
            this.begin = begin;
            this.pilot = pilot;
            this.shipBefore = route.ship.latest;
            this.pilotBefore = pilot.latest;
            this.berthUntil = route.isOutbound ? begin : FOREVER;
        }

        int end() {
            return begin + PASSAGE_MINUTES;
        }

        int tugsFrom() {
            return route.tugsFrom(begin);
        }

        boolean holdsBerthAt(int minute) {
            return begin <= minute && minute < berthUntil;
        }
    }
}
