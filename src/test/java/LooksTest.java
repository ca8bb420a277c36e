/** Promises 18 to 23: occupant, freeTugs, trips, isInPort, delay and digest. */
final class LooksTest {
    private LooksTest() {
    }

    /** Passages 0: ship 0 in at 100; 1: ship 1 in at 120; 2: ship 0 out at 500; 3: ship 1 out at 540. */
    private static PilotBook busyBook() {
        PilotBook book = new PilotBook();
        book.addBerth(400, 2500);
        book.addBerth(400, 2500);
        book.addShip(120, 100);
        book.addShip(250, 199);
        book.addPilot(400, false);
        book.addPilot(400, true);
        book.book(0, 1, 90);
        book.cancel();
        book.book(0, 1, 100);
        book.book(1, 0, 101);
        book.book(0, -1, 500);
        book.book(1, -1, 510);
        int[] begins = {100, 120, 500, 520};
        for (int i = 0; i < begins.length; i++) {
            Check.same("begin of passage " + i, book.passage(i, 1), begins[i]);
        }
        return book;
    }

    private static void promise18Occupant() {
        PilotBook book = busyBook();
        Check.same("ahead of the inbound one", book.occupant(1, 99), -1);
        Check.same("from its begin on", book.occupant(1, 100), 0);
        Check.same("ahead of the outbound one's end", book.occupant(1, 559), 0);
        Check.same("at the outbound one's end", book.occupant(1, 560), -1);
        Check.same("the other berth", book.occupant(0, 119), -1);
        Check.same("the other berth", book.occupant(0, 120), 1);
        Check.same("the other berth", book.occupant(0, 579), 1);
        Check.same("the other berth", book.occupant(0, 580), -1);
        Check.same("behind all", book.occupant(0, 2879), -1);
        Check.same("ahead of all", book.occupant(0, 0), -1);
        book.book(0, 0, 580);
        int begin = book.passage(4, 1);
        Check.same("a second stay", book.occupant(0, begin), 0);
        Check.same("a second stay, ahead", book.occupant(0, begin - 1), -1);
        Check.same("for ever", book.occupant(0, 2879), 0);
        Check.same("the first stay", book.occupant(0, 200), 1);
        Check.noIndex(book, "berth -1", () -> book.occupant(-1, 0));
        Check.noIndex(book, "berth 2", () -> book.occupant(2, 0));
        Check.noIndex(book, "berth 2 and a wrong time", () -> book.occupant(2, -1));
        Check.noArgument(book, "time -1", () -> book.occupant(0, -1));
        Check.noArgument(book, "time 2880", () -> book.occupant(0, 2880));
    }

    private static void promise18StayElsewhere() {
        PilotBook book = busyBook();
        book.book(0, 0, 1000);
        Check.same("left for another berth", book.occupant(1, 1030), -1);
        Check.same("left for another berth", book.occupant(1, 2879), -1);
        Check.same("at the other berth", book.occupant(0, 2879), 0);
        book.cancel();
        Check.same("left, behind the cancel", book.occupant(1, 1030), -1);
        Check.same("left, behind the cancel", book.occupant(0, 2879), -1);
        Check.same("its first stay", book.occupant(1, 559), 0);
        Check.same("its first stay", book.occupant(1, 560), -1);
    }

    private static void promise19FreeTugs() {
        PilotBook book = busyBook();
        int[] times = {0, 119, 120, 139, 140, 159, 160, 179, 180, 499, 500, 519, 520, 539, 540, 559, 560, 2879};
        int[] free = {4, 4, 3, 3, 0, 0, 1, 1, 4, 4, 3, 3, 0, 0, 1, 1, 4, 4};
        for (int i = 0; i < times.length; i++) {
            Check.same("freeTugs(" + times[i] + ")", book.freeTugs(times[i]), free[i]);
        }
        Check.noArgument(book, "time -1", () -> book.freeTugs(-1));
        Check.noArgument(book, "time 2880", () -> book.freeTugs(2880));
    }

    private static void promise20Trips() {
        PilotBook book = busyBook();
        Check.same("trips", book.trips(0), 2);
        Check.same("trips", book.trips(1), 2);
        book.addPilot(20, false);
        Check.same("a pilot without passages", book.trips(2), 0);
        book.book(0, 1, 800);
        Check.same("trips", book.trips(0), 3);
        Check.same("trips", book.trips(1), 2);
        book.cancel();
        Check.same("trips behind the cancel", book.trips(0), 2);
        Check.noIndex(book, "pilot -1", () -> book.trips(-1));
        Check.noIndex(book, "pilot 3", () -> book.trips(3));
    }

    private static void promise21IsInPort() {
        PilotBook book = new PilotBook();
        book.addBerth(400, 2500);
        book.addShip(90, 100);
        book.addPilot(400, false);
        book.addPilot(20, true);
        Check.same("at sea at first", book.isInPort(0), false);
        Check.same("in port at first", book.isInPort(1), true);
        book.book(0, 0, 2000);
        Check.same("behind an inbound one", book.isInPort(0), true);
        book.book(0, -1, 2100);
        Check.same("behind an outbound one", book.isInPort(0), false);
        book.cancel();
        Check.same("behind an inbound one again", book.isInPort(0), true);
        Check.same("the other pilot", book.isInPort(1), true);
        book.cancel();
        Check.same("as at first", book.isInPort(0), false);
        Check.noIndex(book, "pilot -1", () -> book.isInPort(-1));
        Check.noIndex(book, "pilot 2", () -> book.isInPort(2));
    }

    private static void promise22Delay() {
        Check.same("delay without passages", new PilotBook().delay(), 0.0);
        PilotBook book = new PilotBook();
        book.addBerth(400, 2500);
        book.addBerth(400, 2500);
        book.addBerth(400, 2500);
        for (int i = 0; i < 3; i++) {
            book.addShip(90, 100);
            book.addPilot(400, false);
        }
        book.book(0, 0, 50);
        Check.same("begins when it is asked for", book.delay(), 0.0);
        book.book(1, 1, 55);
        Check.same("15 minutes of two", book.delay(), 7.5);
        book.book(2, 2, 89);
        Check.same("16 minutes of three", book.delay(), 16.0 / 3.0);
        book.cancel();
        Check.same("behind the cancel", book.delay(), 7.5);
        PilotBook late = new PilotBook();
        late.addBerth(400, 2500);
        late.addShip(90, 100);
        late.addPilot(400, true);
        late.book(0, 0, 7);
        Check.same("53 minutes of the first", late.delay(), 53.0);
        late.book(0, -1, 150);
        Check.same("53 minutes of two", late.delay(), 26.5);
        late.load(0, 200);
        Check.same("load changes no delay", late.delay(), 26.5);
    }

    private static long digestOf(long... numbers) {
        long d = 307;
        for (long x : numbers) {
            d = d * 31 + x;
        }
        return d;
    }

    private static void promise23Digest() {
        PilotBook book = new PilotBook();
        Check.same("digest of a new book", book.digest(), digestOf(0, 0, 0, 0, 0, 1000, 50, 4));
        book.setWater(1234, 56);
        book.setTugs(7);
        book.addTide(5, -5);
        Check.same("digest with water", book.digest(), digestOf(1, 0, 0, 0, 0, 1234, 56, 7));
        PilotBook busy = busyBook();
        Check.same("digest with passages", busy.digest(), digestOf(0, 2, 2, 2, 4, 1000, 50, 4,
                100, 160, 199, 268,
                0, 100, 0, 1, 1, 0,
                1, 120, 1, 3, 0, 0,
                0, 500, 0, 1, 1, 1,
                1, 520, 1, 3, 0, 1));
        busy.load(0, 345);
        busy.cancel();
        Check.same("digest behind load and cancel", busy.digest(), digestOf(0, 2, 2, 2, 3, 1000, 50, 4,
                345, 429, 199, 268,
                0, 100, 0, 1, 1, 0,
                1, 120, 1, 3, 0, 0,
                0, 500, 0, 1, 1, 1));
    }

    public static void main(String[] args) {
        promise18Occupant();
        promise18StayElsewhere();
        promise19FreeTugs();
        promise20Trips();
        promise21IsInPort();
        promise22Delay();
        promise23Digest();
        Check.end();
    }
}
