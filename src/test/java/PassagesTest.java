/** Promises 15 to 17: book, cancel and passage. */
final class PassagesTest {
    private static final int[] FACTS = {0, 1, 2, 3, 4, 5};

    private PassagesTest() {
    }

    private static PilotBook harbour(int pilotsAtSea, int pilotsInPort) {
        PilotBook book = new PilotBook();
        for (int i = 0; i < 6; i++) {
            book.addBerth(400, 2500);
        }
        for (int i = 0; i < pilotsAtSea; i++) {
            book.addPilot(400, false);
        }
        for (int i = 0; i < pilotsInPort; i++) {
            book.addPilot(400, true);
        }
        return book;
    }

    private static void facts(PilotBook book, int passage, int... due) {
        for (int what : FACTS) {
            Check.same("passage(" + passage + ", " + what + ")", book.passage(passage, what), due[what]);
        }
    }

    private static void promise15Book() {
        PilotBook book = harbour(1, 1);
        book.addShip(90, 100);
        book.addShip(170, 100);
        Check.same("book", book.book(1, 4, 33), 0);
        Check.same("book", book.book(0, 2, 33), 1);
        Check.same("book", book.book(1, -1, 200), 2);
        facts(book, 0, 1, 33, 0, 2, 4, 0);
        facts(book, 1, 0, 60, 1, 0, 2, 0);
        facts(book, 2, 1, 200, 0, 2, 4, 1);
        Check.same("passages", book.count(4), 3);
    }

    private static void promise15Refusals() {
        PilotBook book = harbour(1, 1);
        book.addShip(90, 100);
        Check.noIndex(book, "ship -1", () -> book.book(-1, 0, 0));
        Check.noIndex(book, "ship 1", () -> book.book(1, 0, 0));
        Check.noIndex(book, "berth -2", () -> book.book(0, -2, 0));
        Check.noIndex(book, "berth 6", () -> book.book(0, 6, 0));
        Check.noIndex(book, "berth 6 and a wrong time", () -> book.book(0, 6, 2880));
        Check.noArgument(book, "time -1", () -> book.book(0, 0, -1));
        Check.noArgument(book, "time 2880", () -> book.book(0, 0, 2880));
        Check.noArgument(book, "a wrong time, and out from the sea", () -> book.book(0, -1, 2880));
        Check.noState(book, "out from the sea", () -> book.book(0, -1, 0));
        Check.noState(book, "no minute left", () -> book.book(0, 0, 2820));
        book.book(0, 0, 0);
        Check.noState(book, "in from a berth", () -> book.book(0, 1, 500));
        Check.noState(book, "in to its own berth", () -> book.book(0, 0, 500));
        Check.noState(book, "out, no minute left", () -> book.book(0, -1, 2820));
        Check.same("passages", book.count(4), 1);
        Check.same("its begin stays", book.passage(0, 1), 0);
    }

    /** Convoys in and out, in which ships with numbers 0 to 5 take berths 0 to 5 again and again. */
    private static PilotBook fullBook() {
        PilotBook book = harbour(6, 0);
        for (int i = 0; i < 7; i++) {
            book.addShip(90, 100);
        }
        for (int i = 0; i < 40; i++) {
            boolean isOutbound = i / 5 % 2 == 1;
            Check.same("book", book.book(i % 5, isOutbound ? -1 : i % 5, 0), i);
        }
        return book;
    }

    private static void promise15FortyPassages() {
        PilotBook book = fullBook();
        Check.same("passages", book.count(4), 40);
        int begin = book.earliest(6, 5, 0);
        Check.same("earliest with 40 passages tells a minute", begin >= 0, true);
        Check.noState(book, "41 passages", () -> book.book(6, 5, 0));
        Check.noArgument(book, "a wrong time with 40 passages", () -> book.book(6, 5, -1));
        Check.noIndex(book, "a wrong ship with 40 passages", () -> book.book(7, 5, 0));
        Check.same("the last ship", book.cancel(), 4);
        Check.same("book behind the cancel", book.book(6, 5, begin), 39);
        Check.same("its begin", book.passage(39, 1), begin);
        Check.same("its ship", book.passage(39, 0), 6);
    }

    private static void promise15FirstOfEqualPilots() {
        PilotBook book = harbour(2, 2);
        for (int i = 0; i < 5; i++) {
            book.addShip(90, 100);
        }
        book.book(0, 0, 0);
        Check.same("at 0 the smallest number at sea", book.passage(0, 2), 0);
        book.book(1, 1, 100);
        Check.same("those that had none come first", book.passage(1, 2), 1);
        book.book(2, 2, 100);
        Check.same("one from the wrong side, behind 60", book.passage(2, 2), 2);
        book.book(3, 3, 100);
        Check.same("the next one from the wrong side", book.passage(3, 2), 3);
        book.book(4, 4, 500);
        Check.same("the one that ended earliest", book.passage(4, 2), 0);
        book.book(0, -1, 800);
        Check.same("the one that ended earliest then", book.passage(5, 2), 1);
    }

    private static void promise15PilotThatHadNone() {
        PilotBook book = new PilotBook();
        book.addBerth(400, 2500);
        book.addBerth(400, 2500);
        book.addShip(90, 100);
        book.addShip(90, 100);
        book.addPilot(400, false);
        book.book(0, 0, 0);
        book.book(0, -1, 100);
        Check.same("the only pilot", book.passage(1, 2), 0);
        book.addPilot(400, true);
        book.book(1, 1, 1000);
        Check.same("one that had none, though on the wrong side", book.passage(2, 2), 1);
    }

    private static void promise16Cancel() {
        PilotBook book = harbour(1, 1);
        book.addShip(90, 100);
        book.addShip(190, 100);
        Check.noState(book, "cancel without a passage", () -> book.cancel());
        long empty = book.digest();
        book.book(1, 3, 0);
        long one = book.digest();
        book.book(0, 5, 100);
        long two = book.digest();
        book.book(1, -1, 300);
        Check.same("left", book.occupant(3, 360), -1);
        Check.same("cancel", book.cancel(), 1);
        Check.same("digest behind the cancel", book.digest(), two);
        Check.same("there again", book.occupant(3, 360), 1);
        Check.same("there for ever again", book.occupant(3, 2879), 1);
        Check.same("its tugs are free again", book.freeTugs(300), 4);
        Check.same("its pilot is where it was", book.isInPort(0), true);
        Check.same("it can leave again", book.earliest(1, -1, 300), 300);
        Check.same("cancel", book.cancel(), 0);
        Check.same("digest behind the cancel", book.digest(), one);
        Check.same("the berth is free", book.occupant(5, 500), -1);
        Check.same("the ship can come again", book.book(0, 5, 100), 1);
        Check.same("cancel", book.cancel(), 0);
        Check.same("cancel", book.cancel(), 1);
        Check.same("digest behind the cancel", book.digest(), empty);
        Check.same("delay behind the cancel", book.delay(), 0.0);
        Check.same("its pilot had no passage", book.trips(0), 0);
        Check.same("its pilot is at sea", book.isInPort(0), false);
        Check.same("at sea: in at once", book.earliest(1, 3, 0), 0);
        Check.noState(book, "cancel without a passage", () -> book.cancel());
    }

    private static void promise17Passage() {
        PilotBook book = harbour(1, 0);
        book.addShip(250, 100);
        Check.noIndex(book, "passage 0 of none", () -> book.passage(0, 0));
        book.book(0, 5, 12);
        book.book(0, -1, 700);
        facts(book, 0, 0, 12, 0, 3, 5, 0);
        facts(book, 1, 0, 700, 0, 3, 5, 1);
        Check.noIndex(book, "passage -1", () -> book.passage(-1, 0));
        Check.noIndex(book, "passage 2", () -> book.passage(2, 0));
        Check.noIndex(book, "what -1", () -> book.passage(0, -1));
        Check.noIndex(book, "what 6", () -> book.passage(1, 6));
    }

    public static void main(String[] args) {
        promise15Book();
        promise15Refusals();
        promise15FortyPassages();
        promise15FirstOfEqualPilots();
        promise15PilotThatHadNone();
        promise16Cancel();
        promise17Passage();
        Check.end();
    }
}
