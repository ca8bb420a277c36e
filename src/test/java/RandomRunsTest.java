import java.util.Random;

/** Random runs, each of a fixed seed, whose 512 calls are answered by PilotBook and by LiteralBook. */
final class RandomRunsTest {
    private static final int RUNS = 600;
    // Behind these calls the document promises nothing, so the digests that are asked for count as well.
    private static final int CALLS = 512;
    private static final int CALLS_TO_A_DIGEST = 5;
    private static final int[] ODD = {Integer.MIN_VALUE, -2, -1, 2880, 2881, 100000, Integer.MAX_VALUE};

    private final Random random;
    private final PilotBook book = new PilotBook();
    private final LiteralBook literal = new LiteralBook();
    private final boolean isDeep;
    private final boolean isBusy;
    private final int longest;
    private int calls = 0;

    private RandomRunsTest(int seed) {
        random = new Random(seed);
        isDeep = random.nextInt(3) > 0;
        isBusy = isDeep && random.nextBoolean();
        longest = random.nextBoolean() ? 400 : 130;
    }

    private interface Answer {
        Object get();
    }

    private static String told(Answer answer) {
        try {
            return String.valueOf(answer.get());
        } catch (RuntimeException e) {
            return "throws " + Check.thrown(e);
        }
    }

    private void compare(String call, Answer got, Answer due) {
        calls++;
        Check.same(call, told(got), told(due));
        if (calls % CALLS_TO_A_DIGEST == 0 || calls == CALLS - 1) {
            calls++;
            Check.same("digest behind " + call, book.digest(), literal.digest());
        }
    }

    private int between(int low, int high) {
        int kind = random.nextInt(40);
        if (kind == 0) {
            return low - 1;
        }
        if (kind == 1) {
            return high + 1;
        }
        if (kind == 2) {
            return ODD[random.nextInt(ODD.length)];
        }
        if (kind < 6) {
            return kind == 3 ? low : high;
        }
        return low + random.nextInt(high - low + 1);
    }

    private int numberBelow(int size) {
        return random.nextInt(40) == 0 ? ODD[random.nextInt(ODD.length)] : random.nextInt(size + (size == 0 ? 1 : 0));
    }

    private int time() {
        int kind = random.nextInt(4);
        if (kind == 0) {
            return between(0, 2879);
        }
        return random.nextInt(kind == 1 || isBusy ? 200 : 1500);
    }

    private int draft() {
        return isDeep ? between(100, 900) : between(100, 2000);
    }

    private void setUp() {
        for (int i = random.nextInt(isDeep ? 6 : 31); i > 0; i--) {
            addTide();
        }
        for (int i = isBusy ? 8 : 1 + random.nextInt(6); i > 0; i--) {
            addBerth();
        }
        for (int i = 1 + random.nextInt(16); i > 0; i--) {
            addShip();
        }
        for (int i = isBusy ? 8 : 1 + random.nextInt(6); i > 0; i--) {
            addPilot();
        }
        if (random.nextBoolean()) {
            setTugs();
        }
    }

    private void addTide() {
        int time = between(0, 2879);
        int height = isDeep ? between(0, 900) : between(-300, 900);
        compare("addTide(" + time + ", " + height + ")",
                () -> book.addTide(time, height), () -> literal.addTide(time, height));
    }

    private void addBerth() {
        int length = between(longest - 30, 400);
        int depth = isDeep ? between(1000, 2500) : between(300, 2500);
        compare("addBerth(" + length + ", " + depth + ")",
                () -> book.addBerth(length, depth), () -> literal.addBerth(length, depth));
    }

    private void addShip() {
        int length = between(20, longest);
        int draft = draft();
        compare("addShip(" + length + ", " + draft + ")",
                () -> book.addShip(length, draft), () -> literal.addShip(length, draft));
    }

    private void addPilot() {
        int limit = between(longest - 60, 400);
        boolean port = random.nextBoolean();
        compare("addPilot(" + limit + ", " + port + ")",
                () -> book.addPilot(limit, port), () -> literal.addPilot(limit, port));
    }

    private void setTugs() {
        int tugs = between(0, 8);
        compare("setTugs(" + tugs + ")", () -> book.setTugs(tugs), () -> literal.setTugs(tugs));
    }

    private void setWater() {
        int depth = isDeep ? between(900, 2500) : between(300, 2500);
        int margin = between(0, 500);
        compare("setWater(" + depth + ", " + margin + ")",
                () -> book.setWater(depth, margin), () -> literal.setWater(depth, margin));
    }

    private void load() {
        int ship = numberBelow(literal.count(2));
        int draft = draft();
        compare("load(" + ship + ", " + draft + ")", () -> book.load(ship, draft), () -> literal.load(ship, draft));
    }

    private boolean isAtBerth(int ship) {
        for (int i = literal.count(4) - 1; i >= 0; i--) {
            if (literal.passage(i, 0) == ship) {
                return literal.passage(i, 5) == 0;
            }
        }
        return false;
    }

    /** Mostly a place to which the ship can go from where it is. */
    private int placeFor(int ship) {
        int kind = random.nextInt(30);
        if (kind == 0) {
            return numberBelow(literal.count(1));
        }
        if (kind < 5) {
            return random.nextInt(literal.count(1) + 1) - 1;
        }
        return isAtBerth(ship) ? -1 : random.nextInt(Math.max(1, literal.count(1)));
    }

    private void plan() {
        int ship = numberBelow(literal.count(2));
        int berth = placeFor(ship);
        int time = time();
        String words = "(" + ship + ", " + berth + ", " + time + ")";
        int kind = random.nextInt(6);
        if (kind == 0) {
            compare("window" + words, () -> book.window(ship, berth, time), () -> literal.window(ship, berth, time));
        } else if (kind < 3) {
            compare("earliest" + words,
                    () -> book.earliest(ship, berth, time), () -> literal.earliest(ship, berth, time));
        } else {
            compare("book" + words, () -> book.book(ship, berth, time), () -> literal.book(ship, berth, time));
        }
    }

    private void look() {
        int ship = numberBelow(literal.count(2));
        int berth = numberBelow(literal.count(1));
        int pilot = numberBelow(literal.count(3));
        int passage = numberBelow(literal.count(4));
        int what = between(0, 5);
        int time = between(0, 2879);
        switch (random.nextInt(10)) {
            case 0 -> compare("height(" + time + ")", () -> book.height(time), () -> literal.height(time));
            case 1 -> compare("need(" + ship + ")", () -> book.need(ship), () -> literal.need(ship));
            case 2 -> compare("least(" + ship + ")", () -> book.least(ship), () -> literal.least(ship));
            case 3 -> compare("passage(" + passage + ", " + what + ")",
                    () -> book.passage(passage, what), () -> literal.passage(passage, what));
            case 4 -> compare("occupant(" + berth + ", " + time + ")",
                    () -> book.occupant(berth, time), () -> literal.occupant(berth, time));
            case 5 -> compare("freeTugs(" + time + ")", () -> book.freeTugs(time), () -> literal.freeTugs(time));
            case 6 -> compare("trips(" + pilot + ")", () -> book.trips(pilot), () -> literal.trips(pilot));
            case 7 -> compare("isInPort(" + pilot + ")", () -> book.isInPort(pilot), () -> literal.isInPort(pilot));
            case 8 -> compare("delay()", () -> book.delay(), () -> literal.delay());
            default -> compare("count(" + what + ")", () -> book.count(what), () -> literal.count(what));
        }
    }

    private void anyCall() {
        int kind = random.nextInt(100);
        if (kind < 50) {
            plan();
        } else if (kind < 85) {
            look();
        } else if (kind < (isBusy ? 86 : 89)) {
            compare("cancel()", () -> book.cancel(), () -> literal.cancel());
        } else if (kind < 93) {
            load();
        } else if (kind < 95) {
            setWater();
        } else {
            switch (random.nextInt(5)) {
                case 0 -> addTide();
                case 1 -> addBerth();
                case 2 -> addShip();
                case 3 -> addPilot();
                default -> setTugs();
            }
        }
    }

    private int run() {
        setUp();
        int most = 0;
        while (calls < CALLS) {
            anyCall();
            most = Math.max(most, literal.count(4));
        }
        return most;
    }

    public static void main(String[] args) {
        int full = 0;
        long booked = 0;
        for (int seed = 1; seed <= RUNS; seed++) {
            int most = new RandomRunsTest(seed).run();
            booked += most;
            full += most == 40 ? 1 : 0;
        }
        System.out.println(booked / RUNS + " passages a run, " + full + " runs with 40");
        Check.same("some runs reach 40 passages", full > 0, true);
        Check.end();
    }
}
