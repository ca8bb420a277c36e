/**
 * Each "Throws .. if .." of the document, and "A method that throws an exception changes nothing. If several
 * exceptions apply, the one that is named first is thrown.": a refused call is made on a book of its own, which then
 * has to answer as one on which it was not made.
 */
final class ThrowsEdgesTest {
    private static final Class<? extends RuntimeException> INDEX = IndexOutOfBoundsException.class;
    private static final Class<? extends RuntimeException> ARGUMENT = IllegalArgumentException.class;
    private static final Class<? extends RuntimeException> STATE = IllegalStateException.class;

    private static final Kind EMPTY = new Kind(PilotBook::new);
    private static final Kind TIDAL = new Kind(ThrowsEdgesTest::tidal);
    private static final Kind BOOKED = new Kind(ThrowsEdgesTest::booked);
    private static final Kind FILLED = new Kind(ThrowsEdgesTest::filled);
    private static final Kind FULL = new Kind(ThrowsEdgesTest::full);

    private ThrowsEdgesTest() {
    }

    private interface Recipe {
        PilotBook make();
    }

    private interface Call {
        void on(PilotBook book);
    }

    private interface NumberCall {
        void on(PilotBook book, int number);
    }

    /** A kind of book, and what it answers while no refused call was made on it. */
    private static final class Kind {
        private final Recipe recipe;
        private String untouched = "";

        Kind(Recipe recipe) {
            this.recipe = recipe;
        }

        private static String thrownBy(Call call, PilotBook book) {
            try {
                call.on(book);
            } catch (RuntimeException e) {
                return Check.thrown(e);
            }
            return "nothing";
        }

        void refuses(Class<? extends RuntimeException> due, String what, Call call) {
            if (untouched.isEmpty()) {
                untouched = State.whole(recipe.make());
            }
            PilotBook book = recipe.make();
            Check.same(what + " throws", thrownBy(call, book), due.getName());
            Check.same("the state behind " + what, State.whole(book), untouched);
        }

        void doesNotThrow(Class<? extends RuntimeException> wrong, String what, Call call) {
            boolean isThrown = thrownBy(call, recipe.make()).startsWith(wrong.getName());
            Check.same(what + " throws " + wrong.getName(), isThrown, false);
        }
    }

    private static PilotBook tidal() {
        PilotBook book = new PilotBook();
        book.addTide(0, 5);
        book.addTide(2879, -5);
        book.addTide(700, 50);
        return book;
    }

    /** Ship 0 is at berth 0, ship 1 was there and went out, ship 2 is at sea; two pilots. */
    private static PilotBook booked() {
        PilotBook book = new PilotBook();
        book.addTide(700, 30);
        book.addTide(100, -20);
        book.addBerth(200, 900);
        book.addBerth(300, 1200);
        book.addShip(150, 300);
        book.addShip(170, 400);
        book.addShip(90, 200);
        book.addPilot(180, false);
        book.addPilot(160, true);
        book.book(1, 0, 20);
        book.book(1, -1, 200);
        book.book(0, 0, 300);
        return book;
    }

    /** As many of all as there can be, but of passages. */
    private static PilotBook filled() {
        PilotBook book = new PilotBook();
        for (int i = 0; i < 30; i++) {
            book.addTide(i * 90, i * 7 % 13);
        }
        for (int i = 0; i < 6; i++) {
            book.addBerth(100 + i, 2500 - i);
            book.addPilot(100 + i, false);
        }
        for (int i = 0; i < 16; i++) {
            book.addShip(90 + i % 7, 100 + i);
        }
        return book;
    }

    private static PilotBook full() {
        PilotBook book = filled();
        for (int i = 0; i < 40; i++) {
            book.book(i % 5, i / 5 % 2 == 1 ? -1 : i % 5, 0);
        }
        return book;
    }

    // ---- the forms of the sentences

    private static void outside(Class<? extends RuntimeException> due, Kind kind, int low, int high, NumberCall call) {
        int[] wrong = {Integer.MIN_VALUE, low - 1, high + 1, Integer.MAX_VALUE};
        for (int number : wrong) {
            kind.refuses(due, "the call with " + number, book -> call.on(book, number));
        }
        int[] right = {low, high};
        for (int number : right) {
            kind.doesNotThrow(due, "the call with " + number, book -> call.on(book, number));
        }
    }

    /** The numbers from low to high are right, all others not. */
    private static void argument(String words, Kind kind, int low, int high, NumberCall call) {
        Check.sentence(words, () -> outside(ARGUMENT, kind, low, high, call));
    }

    private static void index(String words, Kind kind, int low, int high, NumberCall call) {
        Check.sentence(words, () -> outside(INDEX, kind, low, high, call));
    }

    /** The call is refused in a book of the one kind, and not in one of the other kind. */
    private static void state(String words, Kind kind, Kind other, Call call) {
        Check.sentence(words, () -> {
            kind.refuses(STATE, "the call", call);
            other.doesNotThrow(STATE, "the call", call);
        });
    }

    // ---- Throws .. if ..

    private static void tideAndWater() {
        argument("addTide: if time is not 0 to 2879", EMPTY, 0, 2879, (book, x) -> book.addTide(x, 0));
        argument("addTide: or height is not -300 to 900", EMPTY, -300, 900, (book, x) -> book.addTide(0, x));
        state("addTide: if there is a point at this time", TIDAL, EMPTY, book -> book.addTide(700, 0));
        state("addTide: if there is a point at this time (0)", TIDAL, EMPTY, book -> book.addTide(0, 0));
        state("addTide: if there is a point at this time (2879)", TIDAL, EMPTY, book -> book.addTide(2879, 0));
        state("addTide: there are 30 points", FILLED, TIDAL, book -> book.addTide(1, 0));
        state("addTide: or a passage is booked", BOOKED, TIDAL, book -> book.addTide(1, 0));
        argument("height: if time is not 0 to 2879", TIDAL, 0, 2879, (book, x) -> book.height(x));
        argument("setWater: if depth is not 300 to 2500", BOOKED, 300, 2500, (book, x) -> book.setWater(x, 0));
        argument("setWater: or margin is not 0 to 500", BOOKED, 0, 500, (book, x) -> book.setWater(300, x));
    }

    private static void harbour() {
        argument("addBerth: if length is not 20 to 400", EMPTY, 20, 400, (book, x) -> book.addBerth(x, 300));
        argument("addBerth: or depth is not 300 to 2500", EMPTY, 300, 2500, (book, x) -> book.addBerth(20, x));
        state("addBerth: if there are 6 berths", FILLED, BOOKED, book -> book.addBerth(20, 300));
        argument("addShip: if length is not 20 to 400", EMPTY, 20, 400, (book, x) -> book.addShip(x, 100));
        argument("addShip: or draft is not 100 to 2000", EMPTY, 100, 2000, (book, x) -> book.addShip(20, x));
        state("addShip: if there are 16 ships", FILLED, BOOKED, book -> book.addShip(20, 100));
        index("load: if there is no such ship", BOOKED, 0, 2, (book, x) -> book.load(x, 100));
        argument("load: if draft is not 100 to 2000", BOOKED, 100, 2000, (book, x) -> book.load(0, x));
        argument("addPilot: if limit is not 20 to 400", EMPTY, 20, 400, (book, x) -> book.addPilot(x, true));
        state("addPilot: if there are 6 pilots", FILLED, BOOKED, book -> book.addPilot(20, true));
        argument("setTugs: if tugs is not 0 to 8", EMPTY, 0, 8, (book, x) -> book.setTugs(x));
        state("setTugs: if a passage is booked", BOOKED, FILLED, book -> book.setTugs(8));
        index("count: if what is not 0 to 4", BOOKED, 0, 4, (book, x) -> book.count(x));
    }

    private static void water() {
        index("need: if there is no such ship", BOOKED, 0, 2, (book, x) -> book.need(x));
        index("window: if there is no such ship", BOOKED, 0, 2, (book, x) -> book.window(x, 0, 0));
        index("window: or berth is not -1, and no berth", BOOKED, -1, 1, (book, x) -> book.window(0, x, 0));
        argument("window: if time is not 0 to 2879", BOOKED, 0, 2879, (book, x) -> book.window(0, 0, x));
        index("least: if there is no such ship", BOOKED, 0, 2, (book, x) -> book.least(x));
        Check.sentence("least: if it had no inbound passage", () -> {
            BOOKED.refuses(STATE, "least of a ship at sea", book -> book.least(2));
            BOOKED.doesNotThrow(STATE, "least of a ship at its berth", book -> book.least(0));
            BOOKED.doesNotThrow(STATE, "least of a ship that went out", book -> book.least(1));
        });
    }

    private static void passages() {
        index("earliest: if there is no such ship", BOOKED, 0, 2, (book, x) -> book.earliest(x, 0, 0));
        index("earliest: or berth is not -1, and no berth", BOOKED, -1, 1, (book, x) -> book.earliest(2, x, 0));
        argument("earliest: if time is not 0 to 2879", BOOKED, 0, 2879, (book, x) -> book.earliest(2, 1, x));
        index("book: if there is no such ship", BOOKED, 0, 2, (book, x) -> book.book(x, 1, 0));
        index("book: or berth is not -1, and no berth", BOOKED, -1, 1, (book, x) -> book.book(2, x, 0));
        argument("book: if time is not 0 to 2879", BOOKED, 0, 2879, (book, x) -> book.book(2, 1, x));
        Check.sentence("book: if earliest() is -1", () -> {
            BOOKED.refuses(STATE, "in from a berth", book -> book.book(0, 1, 500));
            BOOKED.refuses(STATE, "out from the sea", book -> book.book(1, -1, 500));
            BOOKED.refuses(STATE, "out from the sea, never in", book -> book.book(2, -1, 500));
            BOOKED.refuses(STATE, "to a berth that is held", book -> book.book(2, 0, 500));
            BOOKED.refuses(STATE, "in, too late", book -> book.book(2, 1, 2820));
            BOOKED.refuses(STATE, "out, too late", book -> book.book(0, -1, 2820));
            BOOKED.doesNotThrow(STATE, "in, just in time", book -> book.book(2, 1, 2819));
            BOOKED.doesNotThrow(STATE, "out, just in time", book -> book.book(0, -1, 2819));
        });
        state("book: or there are 40 passages", FULL, FILLED, book -> book.book(7, 5, 0));
        state("cancel: if there is none", FILLED, BOOKED, book -> book.cancel());
        state("cancel: if there is none (a new object)", EMPTY, FULL, book -> book.cancel());
    }

    private static void looks() {
        index("passage: if there is no such passage", BOOKED, 0, 2, (book, x) -> book.passage(x, 0));
        index("passage: or what is not 0 to 5", BOOKED, 0, 5, (book, x) -> book.passage(2, x));
        index("passage: if there is no such passage (40)", FULL, 0, 39, (book, x) -> book.passage(x, 5));
        index("occupant: if there is no such berth", BOOKED, 0, 1, (book, x) -> book.occupant(x, 0));
        argument("occupant: if time is not 0 to 2879", BOOKED, 0, 2879, (book, x) -> book.occupant(0, x));
        argument("freeTugs: if time is not 0 to 2879", BOOKED, 0, 2879, (book, x) -> book.freeTugs(x));
        index("trips: if there is no such pilot", BOOKED, 0, 1, (book, x) -> book.trips(x));
        index("isInPort: if there is no such pilot", BOOKED, 0, 1, (book, x) -> book.isInPort(x));
    }

    private static void withNothingAtAll() {
        int[] numbers = {Integer.MIN_VALUE, -1, 0, 1, Integer.MAX_VALUE};
        for (int x : numbers) {
            EMPTY.refuses(INDEX, "load of ship " + x, book -> book.load(x, 100));
            EMPTY.refuses(INDEX, "need of ship " + x, book -> book.need(x));
            EMPTY.refuses(INDEX, "window of ship " + x, book -> book.window(x, -1, 0));
            EMPTY.refuses(INDEX, "least of ship " + x, book -> book.least(x));
            EMPTY.refuses(INDEX, "earliest of ship " + x, book -> book.earliest(x, -1, 0));
            EMPTY.refuses(INDEX, "book of ship " + x, book -> book.book(x, -1, 0));
            EMPTY.refuses(INDEX, "passage " + x, book -> book.passage(x, 0));
            EMPTY.refuses(INDEX, "occupant of berth " + x, book -> book.occupant(x, 0));
            EMPTY.refuses(INDEX, "trips of pilot " + x, book -> book.trips(x));
            EMPTY.refuses(INDEX, "isInPort of pilot " + x, book -> book.isInPort(x));
        }
    }

    // ---- the one that is named first

    private static void addTideNamesArgumentFirst() {
        TIDAL.refuses(ARGUMENT, "a wrong height at a taken time", book -> book.addTide(700, 901));
        FILLED.refuses(ARGUMENT, "a wrong height with 30 points", book -> book.addTide(1, -301));
        FILLED.refuses(ARGUMENT, "a wrong time with 30 points", book -> book.addTide(2880, 0));
        BOOKED.refuses(ARGUMENT, "a wrong time with a passage", book -> book.addTide(-1, 0));
        BOOKED.refuses(ARGUMENT, "a wrong height with a passage", book -> book.addTide(1, 901));
    }

    private static void addingNamesArgumentFirst() {
        FILLED.refuses(ARGUMENT, "a wrong length with 6 berths", book -> book.addBerth(401, 300));
        FILLED.refuses(ARGUMENT, "a wrong depth with 6 berths", book -> book.addBerth(400, 2501));
        FILLED.refuses(ARGUMENT, "a wrong length with 16 ships", book -> book.addShip(19, 100));
        FILLED.refuses(ARGUMENT, "a wrong draft with 16 ships", book -> book.addShip(20, 2001));
        FILLED.refuses(ARGUMENT, "a wrong limit with 6 pilots", book -> book.addPilot(401, true));
    }

    private static void setTugsNamesArgumentFirst() {
        BOOKED.refuses(ARGUMENT, "too few tugs with a passage", book -> book.setTugs(-1));
        BOOKED.refuses(ARGUMENT, "too many tugs with a passage", book -> book.setTugs(9));
    }

    private static void loadNamesIndexFirst() {
        BOOKED.refuses(INDEX, "a ship too many and a wrong draft", book -> book.load(3, 99));
        BOOKED.refuses(INDEX, "ship -1 and a wrong draft", book -> book.load(-1, 2001));
    }

    private static void windowNamesIndexFirst() {
        BOOKED.refuses(INDEX, "no ship and a wrong time", book -> book.window(3, 0, -1));
        BOOKED.refuses(INDEX, "no berth and a wrong time", book -> book.window(0, 2, 2880));
        BOOKED.refuses(INDEX, "none of all", book -> book.window(-1, -2, -1));
    }

    private static void earliestNamesIndexFirst() {
        BOOKED.refuses(INDEX, "no ship and a wrong time", book -> book.earliest(3, 0, -1));
        BOOKED.refuses(INDEX, "no berth and a wrong time", book -> book.earliest(0, 2, 2880));
        BOOKED.refuses(INDEX, "none of all", book -> book.earliest(-1, -2, -1));
    }

    private static void occupantNamesIndexFirst() {
        BOOKED.refuses(INDEX, "no berth and a wrong time", book -> book.occupant(2, -1));
        EMPTY.refuses(INDEX, "no berth at all and a wrong time", book -> book.occupant(0, 2880));
    }

    private static void bookNamesIndexFirst() {
        BOOKED.refuses(INDEX, "no ship and a wrong time", book -> book.book(3, 0, -1));
        BOOKED.refuses(INDEX, "no berth and a wrong time", book -> book.book(2, -2, 2880));
        BOOKED.refuses(INDEX, "no berth, and the ship is at one", book -> book.book(0, 2, 500));
        BOOKED.refuses(INDEX, "no berth, and no minute", book -> book.book(2, 2, 2879));
        FULL.refuses(INDEX, "no ship, and 40 passages", book -> book.book(16, 5, 0));
        FULL.refuses(INDEX, "no berth, and 40 passages", book -> book.book(7, 6, 0));
        FULL.refuses(INDEX, "no ship, a wrong time and 40 passages", book -> book.book(-1, 5, 2880));
    }

    private static void bookNamesArgumentSecond() {
        BOOKED.refuses(ARGUMENT, "a wrong time, and out from the sea", book -> book.book(2, -1, 2880));
        BOOKED.refuses(ARGUMENT, "a wrong time, and in from a berth", book -> book.book(0, 1, -1));
        BOOKED.refuses(ARGUMENT, "a wrong time, and a berth that is held", book -> book.book(2, 0, 2880));
        FULL.refuses(ARGUMENT, "a wrong time, and 40 passages", book -> book.book(7, 5, 2880));
    }

    private static void severalExceptions() {
        String first = ": the one that is named first is thrown";
        Check.sentence("addTide" + first, ThrowsEdgesTest::addTideNamesArgumentFirst);
        Check.sentence("addBerth, addShip, addPilot" + first, ThrowsEdgesTest::addingNamesArgumentFirst);
        Check.sentence("setTugs" + first, ThrowsEdgesTest::setTugsNamesArgumentFirst);
        Check.sentence("load" + first, ThrowsEdgesTest::loadNamesIndexFirst);
        Check.sentence("window" + first, ThrowsEdgesTest::windowNamesIndexFirst);
        Check.sentence("earliest" + first, ThrowsEdgesTest::earliestNamesIndexFirst);
        Check.sentence("occupant" + first, ThrowsEdgesTest::occupantNamesIndexFirst);
        Check.sentence("book" + first, ThrowsEdgesTest::bookNamesIndexFirst);
        Check.sentence("book" + first + " (time)", ThrowsEdgesTest::bookNamesArgumentSecond);
    }

    private static void kindsAreWhatTheySay() {
        Check.same("points of the filled book", FILLED.recipe.make().count(0), 30);
        Check.same("berths of the filled book", FILLED.recipe.make().count(1), 6);
        Check.same("ships of the filled book", FILLED.recipe.make().count(2), 16);
        Check.same("pilots of the filled book", FILLED.recipe.make().count(3), 6);
        Check.same("passages of the booked book", BOOKED.recipe.make().count(4), 3);
        Check.same("ship at berth 0 of the booked book", BOOKED.recipe.make().occupant(0, 2879), 0);
        Check.same("in for ship 2 of the booked book", BOOKED.recipe.make().earliest(2, 1, 0) >= 0, true);
        Check.same("passages of the full book", FULL.recipe.make().count(4), 40);
        Check.same("a minute for a 41st", FULL.recipe.make().earliest(7, 5, 0) >= 0, true);
    }

    public static void main(String[] args) {
        Check.sentence("the books of these tests", ThrowsEdgesTest::kindsAreWhatTheySay);
        tideAndWater();
        harbour();
        water();
        passages();
        looks();
        Check.sentence("Creates a book without a tide, berths, ships and pilots.", ThrowsEdgesTest::withNothingAtAll);
        severalExceptions();
        Check.end();
    }
}
