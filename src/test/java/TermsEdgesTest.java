import java.util.function.IntConsumer;

/** The boundary cases of the document's "Terms", but for "A passage can begin at a minute, if". */
final class TermsEdgesTest {
    private TermsEdgesTest() {
    }

    /** The value is wrong wherever it is below or above its range, be it by one or by far. */
    private static void refusedOutside(PilotBook book, String what, int low, int high, IntConsumer call) {
        Check.noArgument(book, what + " " + (low - 1), () -> call.accept(low - 1));
        Check.noArgument(book, what + " " + (high + 1), () -> call.accept(high + 1));
        for (int far : Books.FAR) {
            Check.noArgument(book, what + " " + far, () -> call.accept(far));
        }
    }

    // ---- time and the tide

    private static void timesOfTheTide() {
        PilotBook book = new PilotBook();
        Check.same("addTide(0, 5)", book.addTide(0, 5), 1);
        Check.same("addTide(2879, 7)", book.addTide(2879, 7), 2);
        refusedOutside(book, "addTide at", 0, 2879, time -> book.addTide(time, 0));
        Check.same("height(0)", book.height(0), 5);
        Check.same("height(2879)", book.height(2879), 7);
        refusedOutside(book, "height at", 0, 2879, time -> book.height(time));
    }

    private static void timesOfPassages() {
        PilotBook book = Books.deep(1, 0, 90);
        Check.same("window at 0", book.window(0, 0, 0), 0);
        Check.same("window at 2879", book.window(0, 0, 2879), 2879);
        refusedOutside(book, "window at", 0, 2879, time -> book.window(0, 0, time));
        Check.same("earliest at 0", book.earliest(0, 0, 0), 0);
        Check.same("earliest at 2879", book.earliest(0, 0, 2879), -1);
        refusedOutside(book, "earliest at", 0, 2879, time -> book.earliest(0, 0, time));
        Check.noState(book, "book at 2879", () -> book.book(0, 0, 2879));
        refusedOutside(book, "book at", 0, 2879, time -> book.book(0, 0, time));
        Check.same("book at 0", book.book(0, 0, 0), 0);
    }

    private static void timesOfLooks() {
        PilotBook book = Books.deep(1, 0, 90);
        book.book(0, 0, 0);
        Check.same("occupant at 0", book.occupant(0, 0), 0);
        Check.same("occupant at 2879", book.occupant(0, 2879), 0);
        refusedOutside(book, "occupant at", 0, 2879, time -> book.occupant(0, time));
        Check.same("freeTugs at 0", book.freeTugs(0), 8);
        Check.same("freeTugs at 2879", book.freeTugs(2879), 8);
        refusedOutside(book, "freeTugs at", 0, 2879, time -> book.freeTugs(time));
    }

    private static void heightsAt(int from, int fromHeight, int to, int toHeight, int... due) {
        PilotBook book = new PilotBook();
        book.addTide(from, fromHeight);
        book.addTide(to, toHeight);
        for (int i = 0; i < due.length; i++) {
            Check.same("height " + i + " behind " + from, book.height(from + i), due[i]);
        }
    }

    private static void cutTowardsZero() {
        heightsAt(0, 0, 3, -1, 0, 0, 0, -1);
        heightsAt(0, 0, 3, 1, 0, 0, 0, 1);
        // The quotient is cut, not the height: 10 - 3, not 20 / 3; and -10 + 3, not -20 / 3.
        heightsAt(0, 10, 3, 0, 10, 7, 4, 0);
        heightsAt(0, -10, 3, 0, -10, -7, -4, 0);
        heightsAt(100, 2, 104, -9, 2, 0, -3, -6, -9);
        // Multiplied first: a difference below the minutes between both still counts.
        heightsAt(7, 100, 17, 105, 100, 100, 101, 101, 102, 102, 103, 103, 104, 104, 105);
    }

    private static void tenthIsCut() {
        PilotBook book = new PilotBook();
        book.setWater(1000, 0);
        int[] drafts = {100, 101, 109, 110, 999, 1000, 1999, 2000};
        for (int draft : drafts) {
            int ship = book.addShip(90, draft);
            Check.same("need of draft " + draft, book.need(ship), draft + draft / 10);
        }
    }

    private static void thirtyPoints() {
        PilotBook book = new PilotBook();
        for (int i = 0; i < 30; i++) {
            Check.same("addTide number " + i, book.addTide(2879 - i * 99, i), i + 1);
        }
        Check.noState(book, "addTide of a 31st point", () -> book.addTide(1, 0));
        Check.same("points", book.count(0), 30);
        for (int i = 0; i < 30; i++) {
            Check.same("height of point " + i, book.height(2879 - i * 99), i);
        }
    }

    private static void heightsOfPoints() {
        PilotBook book = new PilotBook();
        refusedOutside(book, "addTide with a height of", -300, 900, height -> book.addTide(5, height));
        Check.same("addTide(5, -300)", book.addTide(5, -300), 1);
        Check.same("addTide(6, 900)", book.addTide(6, 900), 2);
        Check.same("height(5)", book.height(5), -300);
        Check.same("height(6)", book.height(6), 900);
        refusedOutside(book, "addTide with a height of", -300, 900, height -> book.addTide(7, height));
    }

    private static void differentTimes() {
        PilotBook book = new PilotBook();
        int[] times = {0, 1439, 1440, 2879};
        for (int time : times) {
            book.addTide(time, 11);
        }
        for (int time : times) {
            Check.noState(book, "addTide again at " + time, () -> book.addTide(time, 12));
            Check.noState(book, "addTide again at " + time + ", as high", () -> book.addTide(time, 11));
            Check.same("height(" + time + ")", book.height(time), 11);
        }
        Check.same("addTide a minute behind a point", book.addTide(1, 12), 5);
        Check.same("addTide a minute ahead of a point", book.addTide(2878, 12), 6);
        Check.same("addTide behind two", book.addTide(1441, 12), 7);
    }

    private static void heightOfThePoint() {
        PilotBook book = new PilotBook();
        int[] times = {1440, 0, 2879, 1441, 1, 2878, 1439};
        for (int i = 0; i < times.length; i++) {
            book.addTide(times[i], i * 100 - 300);
        }
        for (int i = 0; i < times.length; i++) {
            Check.same("height(" + times[i] + ")", book.height(times[i]), i * 100 - 300);
        }
    }

    private static void betweenNeighbours() {
        PilotBook book = new PilotBook();
        book.addTide(300, 900);
        book.addTide(100, 0);
        book.addTide(200, -100);
        Check.same("just behind the first", book.height(101), -1);
        Check.same("just ahead of the second", book.height(199), -99);
        Check.same("just behind the second", book.height(201), -90);
        Check.same("just ahead of the third", book.height(299), 890);
        heightsAt(50, 7, 52, 9, 7, 8, 9);
        PilotBook wide = new PilotBook();
        wide.addTide(2879, 900);
        wide.addTide(0, -300);
        Check.same("a minute of the widest rise", wide.height(1), -300);
        Check.same("all minutes but one of the widest rise", wide.height(2878), -300 + 1200 * 2878 / 2879);
    }

    private static void aheadOfTheFirst() {
        PilotBook book = new PilotBook();
        book.addTide(1000, -200);
        book.addTide(500, 70);
        Check.same("height(0)", book.height(0), 70);
        Check.same("height(499)", book.height(499), 70);
        book.addTide(1, 33);
        Check.same("height(0), a point at 1", book.height(0), 33);
        book.addTide(0, -4);
        Check.same("height(0), a point at 0", book.height(0), -4);
    }

    private static void behindTheLast() {
        PilotBook book = new PilotBook();
        book.addTide(1000, -200);
        book.addTide(500, 70);
        Check.same("height(1001)", book.height(1001), -200);
        Check.same("height(2879)", book.height(2879), -200);
        book.addTide(2878, 33);
        Check.same("height(2879), a point at 2878", book.height(2879), 33);
        book.addTide(2879, -4);
        Check.same("height(2879), a point at 2879", book.height(2879), -4);
    }

    private static void withoutPoints() {
        PilotBook book = new PilotBook();
        Check.same("height(0)", book.height(0), 0);
        Check.same("height(1440)", book.height(1440), 0);
        Check.same("height(2879)", book.height(2879), 0);
    }

    // ---- the bar, berths, ships, pilots, tugs

    private static void depthOfTheBar() {
        PilotBook book = new PilotBook();
        // 864 + 86 + 50 is 1000, the depth at first; one more is too much.
        book.addShip(90, 864);
        book.addShip(90, 865);
        Check.same("a need of 1000 at first", book.window(0, -1, 0), 0);
        Check.same("a need of 1001 at first", book.window(1, -1, 0), -1);
        refusedOutside(book, "setWater with a depth of", 300, 2500, depth -> book.setWater(depth, 0));
        Check.same("setWater(300, 0)", book.setWater(300, 0), 1000);
        Check.same("setWater(2500, 0)", book.setWater(2500, 0), 300);
        Check.same("the depth of 2500 stands", book.setWater(1000, 0), 2500);
    }

    private static void sixBerths() {
        PilotBook book = new PilotBook();
        for (int i = 0; i < 6; i++) {
            Check.same("addBerth", book.addBerth(90, 1100 + i), i);
        }
        Check.noState(book, "addBerth of a 7th", () -> book.addBerth(90, 1000));
        Check.same("berths", book.count(1), 6);
        book.addShip(90, 1000);
        for (int i = 0; i < 6; i++) {
            book.setWater(300, i);
            for (int berth = 0; berth < 6; berth++) {
                Check.same("window at berth " + berth, book.window(0, berth, 0), berth >= i ? 0 : -1);
            }
        }
        Check.noIndex(book, "berth 6", () -> book.window(0, 6, 0));
    }

    private static void lengthsOfBerths() {
        PilotBook book = new PilotBook();
        refusedOutside(book, "addBerth with a length of", 20, 400, length -> book.addBerth(length, 300));
        Check.same("addBerth(20, 300)", book.addBerth(20, 300), 0);
        Check.same("addBerth(400, 300)", book.addBerth(400, 300), 1);
    }

    private static void depthsOfBerths() {
        PilotBook book = new PilotBook();
        refusedOutside(book, "addBerth with a depth of", 300, 2500, depth -> book.addBerth(20, depth));
        Check.same("addBerth(20, 300)", book.addBerth(20, 300), 0);
        Check.same("addBerth(20, 2500)", book.addBerth(20, 2500), 1);
    }

    private static void sixteenShips() {
        PilotBook book = new PilotBook();
        for (int i = 0; i < 16; i++) {
            Check.same("addShip", book.addShip(90, 100 + i), i);
        }
        Check.noState(book, "addShip of a 17th", () -> book.addShip(90, 100));
        Check.same("ships", book.count(2), 16);
        for (int i = 0; i < 16; i++) {
            Check.same("draft of ship " + i, book.load(i, 100), 100 + i);
        }
        Check.noIndex(book, "ship 16", () -> book.load(16, 100));
    }

    private static void lengthsOfShips() {
        PilotBook book = new PilotBook();
        refusedOutside(book, "addShip with a length of", 20, 400, length -> book.addShip(length, 100));
        Check.same("addShip(20, 100)", book.addShip(20, 100), 0);
        Check.same("addShip(400, 100)", book.addShip(400, 100), 1);
    }

    private static void draftsOfShips() {
        PilotBook book = new PilotBook();
        refusedOutside(book, "addShip with a draft of", 100, 2000, draft -> book.addShip(90, draft));
        Check.same("addShip(90, 100)", book.addShip(90, 100), 0);
        Check.same("addShip(90, 2000)", book.addShip(90, 2000), 1);
        refusedOutside(book, "load with a draft of", 100, 2000, draft -> book.load(0, draft));
        Check.same("load(0, 2000)", book.load(0, 2000), 100);
        Check.same("load(0, 100)", book.load(0, 100), 2000);
    }

    private static void marginAtFirst() {
        PilotBook book = new PilotBook();
        book.addShip(90, 100);
        Check.same("need at first", book.need(0), 160);
        book.setWater(1000, 0);
        Check.same("need without a margin", book.need(0), 110);
        book.setWater(1000, 500);
        Check.same("need with the largest margin", book.need(0), 610);
    }

    private static void atLeastTheNeed() {
        PilotBook book = new PilotBook();
        book.setWater(1000, 0);
        book.addBerth(90, 1000);
        book.addShip(90, 910);
        int[] margins = {99, 100, 101};
        book.addTide(0, 100);
        for (int margin : margins) {
            book.setWater(1000, margin);
            int due = 910 + 91 + margin <= 1100 ? 0 : -1;
            Check.same("window at the bar, margin " + margin, book.window(0, -1, 0), due);
            Check.same("window at the berth, margin " + margin, book.window(0, 0, 0), due);
        }
        Check.same("at the bar, below the tide", windowOfNeed(400, -100, 300), 0);
        Check.same("at the bar, one too few", windowOfNeed(400, -100, 301), -1);
    }

    /** What window() tells of the bar if its depth, the tide and a ship's need are these. */
    private static int windowOfNeed(int depth, int height, int need) {
        PilotBook book = new PilotBook();
        book.addTide(0, height);
        book.addShip(90, 100);
        book.setWater(depth, need - 110);
        return book.window(0, -1, 0);
    }

    private static void atSeaAtFirst() {
        PilotBook book = Books.deep(1, 1, 90);
        Check.same("out at first", book.earliest(0, -1, 0), -1);
        Check.noState(book, "out at first", () -> book.book(0, -1, 100));
        Check.same("in at first", book.earliest(0, 0, 0), 0);
        Check.same("it has no berth", book.occupant(0, 0), -1);
    }

    private static void sixPilots() {
        PilotBook book = new PilotBook();
        for (int i = 0; i < 6; i++) {
            Check.same("addPilot", book.addPilot(20 + i, i > 3), i);
        }
        Check.noState(book, "addPilot of a 7th", () -> book.addPilot(20, false));
        Check.same("pilots", book.count(3), 6);
        for (int i = 0; i < 6; i++) {
            Check.same("side of pilot " + i, book.isInPort(i), i > 3);
        }
        Check.noIndex(book, "pilot 6", () -> book.isInPort(6));
    }

    private static void limitsOfPilots() {
        PilotBook book = Books.deep(0, 0, 20, 21, 400);
        refusedOutside(book, "addPilot with a limit of", 20, 400, limit -> book.addPilot(limit, false));
        Check.same("addPilot(20, false)", book.addPilot(20, false), 0);
        Check.same("a ship of 20", book.earliest(0, 0, 0), 0);
        Check.same("a ship of 21", book.earliest(1, 0, 0), -1);
        Check.same("addPilot(399, false)", book.addPilot(399, false), 1);
        Check.same("a ship of 400", book.earliest(2, 0, 0), -1);
        Check.same("addPilot(400, false)", book.addPilot(400, false), 2);
        Check.same("a ship of 400", book.earliest(2, 0, 0), 0);
    }

    private static void numberOfTugs() {
        PilotBook book = new PilotBook();
        Check.same("free tugs at first", book.freeTugs(0), 4);
        refusedOutside(book, "setTugs with", 0, 8, tugs -> book.setTugs(tugs));
        Check.same("setTugs(0)", book.setTugs(0), 4);
        Check.same("no tugs are free", book.freeTugs(0), 0);
        Check.same("setTugs(8)", book.setTugs(8), 0);
        Check.same("eight tugs are free", book.freeTugs(0), 8);
        Check.same("setTugs again", book.setTugs(8), 8);
    }

    private static void tugsOfALength() {
        int[] lengths = {20, 99, 100, 159, 160, 219, 220, 400};
        int[] due = {0, 0, 1, 1, 2, 2, 3, 3};
        for (int i = 0; i < lengths.length; i++) {
            PilotBook book = Books.deep(1, 0, lengths[i]);
            book.book(0, 0, 0);
            Check.same("tugs of a length of " + lengths[i], book.passage(0, 3), due[i]);
            Check.same("free tugs beside a length of " + lengths[i], book.freeTugs(20), 8 - due[i]);
        }
    }

    // ---- passages

    private static void sixtyMinutes() {
        PilotBook book = Books.deep(2, 1, 90);
        Books.bookAt(book, 0, 0, 500);
        Check.same("out at its end", book.earliest(0, -1, 0), 560);
        Books.bookAt(book, 0, -1, 560);
        Check.same("in at the end of that", book.earliest(0, 1, 0), 620);
        Check.same("at its berth ahead of this end", book.occupant(0, 619), 0);
        Check.same("gone at this end", book.occupant(0, 620), -1);
    }

    /** Forty passages: ships 0 to 4 go in and out of berths 0 to 4 again and again. */
    private static PilotBook fullBook() {
        PilotBook book = Books.deep(6, 0, 90, 90, 90, 90, 90, 90);
        for (int i = 0; i < 40; i++) {
            Check.same("book", book.book(i % 5, i / 5 % 2 == 1 ? -1 : i % 5, 0), i);
        }
        return book;
    }

    private static void fortyPassages() {
        PilotBook book = fullBook();
        Check.same("passages", book.count(4), 40);
        Check.noState(book, "book of a 41st", () -> book.book(5, 5, 0));
        Check.noState(book, "book of a 41st", () -> book.book(0, 0, 0));
        Check.noIndex(book, "passage 40", () -> book.passage(40, 0));
        for (int i = 0; i < 40; i++) {
            Check.same("ship of passage " + i, book.passage(i, 0), i % 5);
        }
        Check.same("cancel", book.cancel(), 4);
        Check.same("the 40th again", book.book(5, 5, 0), 39);
    }

    private static void orderOfBooking() {
        PilotBook book = Books.deep(3, 0, 90, 90, 90);
        Books.bookAt(book, 2, 0, 2000);
        Books.bookAt(book, 0, 1, 1000);
        Books.bookAt(book, 1, 2, 0);
        int[] ships = {2, 0, 1};
        int[] begins = {2000, 1000, 0};
        for (int i = 0; i < 3; i++) {
            Check.same("ship of passage " + i, book.passage(i, 0), ships[i]);
            Check.same("begin of passage " + i, book.passage(i, 1), begins[i]);
        }
        book.cancel();
        Check.same("the number is given again", book.book(1, 2, 500), 2);
    }

    private static void barAtTheBeginBerthAtTheEnd() {
        PilotBook bar = Books.spike(1000, 1000, 2500);
        Check.same("over the bar at its begin", bar.earliest(0, 0, 0), 1000);
        Check.same("over the bar at its begin, from there on", bar.earliest(0, 0, 1000), 1000);
        Check.same("a minute too late for the bar", bar.earliest(0, 0, 1001), -1);
        PilotBook berth = Books.spike(1000, 2500, 1000);
        Check.same("at the berth at its end", berth.earliest(0, 0, 0), 940);
        Check.same("at the berth at its end, from there on", berth.earliest(0, 0, 940), 940);
        Check.same("a minute too late for the berth", berth.earliest(0, 0, 941), -1);
    }

    /** A spike for the way out of a ship that came in at 0 with a small draft. */
    private static PilotBook spikeOutbound(int barDepth, int berthDepth) {
        PilotBook book = Books.spike(1000, barDepth, berthDepth);
        book.load(0, 100);
        Books.bookAt(book, 0, 0, 0);
        book.load(0, 1000);
        return book;
    }

    private static void berthAtTheBeginBarAtTheEnd() {
        PilotBook berth = spikeOutbound(2500, 1000);
        Check.same("at the berth at its begin", berth.earliest(0, -1, 0), 1000);
        Check.same("at the berth at its begin, from there on", berth.earliest(0, -1, 1000), 1000);
        Check.same("a minute too late for the berth", berth.earliest(0, -1, 1001), -1);
        PilotBook bar = spikeOutbound(1000, 2500);
        Check.same("over the bar at its end", bar.earliest(0, -1, 0), 940);
        Check.same("over the bar at its end, from there on", bar.earliest(0, -1, 940), 940);
        Check.same("a minute too late for the bar", bar.earliest(0, -1, 941), -1);
    }

    private static void tugsInbound() {
        PilotBook book = Books.deep(1, 0, 220);
        Books.bookAt(book, 0, 0, 100);
        int[] times = {100, 119, 120, 159, 160};
        int[] free = {8, 8, 5, 5, 8};
        for (int i = 0; i < times.length; i++) {
            Check.same("free tugs at " + times[i], book.freeTugs(times[i]), free[i]);
        }
    }

    private static void tugsOutbound() {
        PilotBook book = Books.deep(1, 1, 220);
        Books.bookAt(book, 0, 0, 0);
        Books.bookAt(book, 0, -1, 100);
        int[] times = {99, 100, 139, 140, 159, 160};
        int[] free = {8, 5, 5, 8, 8, 8};
        for (int i = 0; i < times.length; i++) {
            Check.same("free tugs at " + times[i], book.freeTugs(times[i]), free[i]);
        }
    }

    private static void tugsAtTheLastMinute() {
        PilotBook book = Books.deep(1, 0, 220);
        Books.bookAt(book, 0, 0, 2819);
        Check.same("free tugs at 2838", book.freeTugs(2838), 8);
        Check.same("free tugs at 2839", book.freeTugs(2839), 5);
        Check.same("free tugs at 2878", book.freeTugs(2878), 5);
        Check.same("free tugs at 2879", book.freeTugs(2879), 8);
    }

    private static void hasTheBerth() {
        PilotBook book = Books.deep(2, 1, 90);
        Books.bookAt(book, 0, 3, 500);
        Check.same("a minute ahead of its begin", book.occupant(3, 499), -1);
        Check.same("at its begin", book.occupant(3, 500), 0);
        Check.same("for ever", book.occupant(3, 2879), 0);
        Books.bookAt(book, 0, -1, 1000);
        Check.same("while it goes out", book.occupant(3, 1059), 0);
        Check.same("at the end of the outbound one", book.occupant(3, 1060), -1);
        // Only the next outbound one ends a stay: a second stay has an end of its own.
        Books.bookAt(book, 0, 3, 2000);
        Check.same("between both stays", book.occupant(3, 1999), -1);
        Check.same("at the second begin", book.occupant(3, 2000), 0);
        Books.bookAt(book, 0, -1, 2819);
        Check.same("up to the last minute", book.occupant(3, 2878), 0);
        Check.same("at the last minute", book.occupant(3, 2879), -1);
        Check.same("the first stay, as it was", book.occupant(3, 1059), 0);
        Check.same("the first stay, as it was", book.occupant(3, 1060), -1);
    }

    private static void tide() {
        String time = "Time is counted in minutes, 0 to 2879";
        Check.sentence(time, TermsEdgesTest::timesOfTheTide);
        Check.sentence(time, TermsEdgesTest::timesOfPassages);
        Check.sentence(time, TermsEdgesTest::timesOfLooks);
        Check.sentence("What is said to be divided is cut towards 0.", TermsEdgesTest::cutTowardsZero);
        Check.sentence("its draft, a tenth of it (cut towards 0), and the margin", TermsEdgesTest::tenthIsCut);
        Check.sentence("The tide is told by points, at most 30", TermsEdgesTest::thirtyPoints);
        Check.sentence("a time and a height, -300 to 900", TermsEdgesTest::heightsOfPoints);
        Check.sentence("the times are different", TermsEdgesTest::differentTimes);
        Check.sentence("that of the point at this time, if there is one", TermsEdgesTest::heightOfThePoint);
        Check.sentence("Between two points that are next to each other", TermsEdgesTest::betweenNeighbours);
        Check.sentence("Ahead of the first point it is the height of this", TermsEdgesTest::aheadOfTheFirst);
        Check.sentence("behind the last one that of this", TermsEdgesTest::behindTheLast);
        Check.sentence("without points it is 0", TermsEdgesTest::withoutPoints);
    }

    private static void harbour() {
        Check.sentence("The bar has a depth, 300 to 2500 (1000, at first).", TermsEdgesTest::depthOfTheBar);
        Check.sentence("Berths. There are at most 6, numbered from 0", TermsEdgesTest::sixBerths);
        Check.sentence("a berth has a length, 20 to 400", TermsEdgesTest::lengthsOfBerths);
        Check.sentence("and a depth, 300 to 2500", TermsEdgesTest::depthsOfBerths);
        Check.sentence("Ships. There are at most 16, numbered likewise", TermsEdgesTest::sixteenShips);
        Check.sentence("a ship has a length, 20 to 400", TermsEdgesTest::lengthsOfShips);
        Check.sentence("and a draft, 100 to 2000", TermsEdgesTest::draftsOfShips);
        Check.sentence("and the margin (50, at first)", TermsEdgesTest::marginAtFirst);
        Check.sentence("the depth and the tide are together at least its need", TermsEdgesTest::atLeastTheNeed);
        Check.sentence("A ship is at sea at first.", TermsEdgesTest::atSeaAtFirst);
        Check.sentence("Pilots. There are at most 6, numbered likewise", TermsEdgesTest::sixPilots);
        Check.sentence("a pilot has a limit, 20 to 400: the length of the longest ship",
                TermsEdgesTest::limitsOfPilots);
        Check.sentence("Tugs. There are so many, 0 to 8 (4, at first).", TermsEdgesTest::numberOfTugs);
        Check.sentence("less than 100 needs none, less than 160 one, less than 220 two, otherwise three",
                TermsEdgesTest::tugsOfALength);
    }

    private static void passages() {
        Check.sentence("Passages take 60 minutes.", TermsEdgesTest::sixtyMinutes);
        Check.sentence("there are at most 40", TermsEdgesTest::fortyPassages);
        Check.sentence("numbered from 0 in the order in which they were booked", TermsEdgesTest::orderOfBooking);
        Check.sentence("An inbound one is over the bar at its begin, and at the berth at its end",
                TermsEdgesTest::barAtTheBeginBerthAtTheEnd);
        Check.sentence("an outbound one is at the berth at its begin, and over the bar at its end",
                TermsEdgesTest::berthAtTheBeginBarAtTheEnd);
        Check.sentence("an inbound one in its last 40 minutes", TermsEdgesTest::tugsInbound);
        Check.sentence("an inbound one in its last 40 minutes, ahead of its end", TermsEdgesTest::tugsAtTheLastMinute);
        Check.sentence("an outbound one in its first 40", TermsEdgesTest::tugsOutbound);
        Check.sentence("from the begin of its inbound passage on, ahead of the end of its next outbound one"
                + " (or for ever)", TermsEdgesTest::hasTheBerth);
    }

    public static void main(String[] args) {
        tide();
        harbour();
        passages();
        Check.end();
    }
}
