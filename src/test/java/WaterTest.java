/** Promises 11 to 13: need, window and least. */
final class WaterTest {
    private WaterTest() {
    }

    private static void promise11Need() {
        PilotBook book = new PilotBook();
        book.addShip(20, 100);
        book.addShip(20, 199);
        book.addShip(20, 2000);
        Check.same("need", book.need(0), 160);
        Check.same("a tenth is cut", book.need(1), 199 + 19 + 50);
        Check.same("need", book.need(2), 2250);
        book.setWater(1000, 7);
        Check.same("need with another margin", book.need(1), 199 + 19 + 7);
        Check.noIndex(book, "ship -1", () -> book.need(-1));
        Check.noIndex(book, "ship 3", () -> book.need(3));
    }

    private static void promise12Window() {
        PilotBook book = new PilotBook();
        book.addTide(100, 0);
        book.addTide(200, 100);
        book.addTide(300, 0);
        book.addShip(20, 1000);
        book.addBerth(20, 1100);
        book.addBerth(20, 1200);
        book.setWater(1040, 0);
        Check.same("need", book.need(0), 1100);
        Check.same("the bar: a height of 60", book.window(0, -1, 0), 160);
        Check.same("from the very minute", book.window(0, -1, 160), 160);
        Check.same("from the last of them", book.window(0, -1, 240), 240);
        Check.same("behind them", book.window(0, -1, 241), -1);
        Check.same("the berth is just deep enough", book.window(0, 0, 5), 5);
        Check.same("up to 2879", book.window(0, 0, 2879), 2879);
        Check.same("the other berth", book.window(0, 1, 0), 0);
        book.load(0, 1200);
        Check.same("never enough at berth 0", book.window(0, 0, 0), -1);
        Check.same("a height of 120 at berth 1", book.window(0, 1, 0), -1);
    }

    private static void promise12WrongCalls() {
        PilotBook book = new PilotBook();
        book.addShip(400, 100);
        book.addBerth(20, 1100);
        Check.same("the berth's length does not count", book.window(0, 0, 3), 3);
        Check.noIndex(book, "ship -1", () -> book.window(-1, -1, 0));
        Check.noIndex(book, "ship 1", () -> book.window(1, -1, 0));
        Check.noIndex(book, "berth -2", () -> book.window(0, -2, 0));
        Check.noIndex(book, "berth 1", () -> book.window(0, 1, 0));
        Check.noIndex(book, "berth 1 and a wrong time", () -> book.window(0, 1, 2880));
        Check.noIndex(book, "ship 1 and a wrong time", () -> book.window(1, 0, -1));
        Check.noArgument(book, "time -1", () -> book.window(0, -1, -1));
        Check.noArgument(book, "time 2880", () -> book.window(0, 0, 2880));
    }

    private static PilotBook tidalBook() {
        PilotBook book = new PilotBook();
        book.addTide(0, 400);
        book.addTide(60, 100);
        book.addTide(61, 300);
        book.addTide(499, 300);
        book.addTide(500, 50);
        book.addTide(501, -100);
        book.addTide(2878, -100);
        book.addTide(2879, -250);
        book.addBerth(100, 2000);
        book.addBerth(100, 1500);
        book.addShip(90, 200);
        book.addPilot(400, false);
        return book;
    }

    private static void promise13Least() {
        PilotBook book = tidalBook();
        Check.noState(book, "least without a passage", () -> book.least(0));
        book.book(0, 0, 0);
        Check.same("begins at once", book.passage(0, 1), 0);
        Check.same("up to 2879, with it", book.least(0), 2000 - 250 - 200);
        book.load(0, 300);
        Check.same("the draft of now", book.least(0), 2000 - 250 - 300);
        book.book(0, -1, 499);
        Check.same("leaves at 499", book.passage(1, 1), 499);
        Check.same("the end of the passage counts", book.least(0), 2000 + 100 - 300);
        book.cancel();
        book.book(0, -1, 500);
        Check.same("the begin of the outbound one counts", book.least(0), 2000 + 50 - 300);
        book.book(0, 1, 700);
        Check.same("the latest inbound one", book.least(0), 1500 - 250 - 300);
        book.book(0, -1, 1000);
        Check.same("the latest inbound one", book.least(0), 1500 - 100 - 300);
        book.cancel();
        book.cancel();
        book.cancel();
        book.cancel();
        Check.noState(book, "least behind the cancel", () -> book.least(0));
        Check.noIndex(book, "ship -1", () -> book.least(-1));
        Check.noIndex(book, "ship 1", () -> book.least(1));
    }

    private static void promise13LeastBelowNothing() {
        PilotBook book = new PilotBook();
        book.addBerth(100, 300);
        book.addShip(90, 100);
        book.addPilot(400, false);
        book.book(0, 0, 0);
        book.load(0, 2000);
        Check.same("a loaded ship may stand deep in the mud", book.least(0), 300 - 2000);
    }

    private static void promise13BegunAtTheEnd() {
        PilotBook book = new PilotBook();
        book.addTide(2878, 400);
        book.addTide(2879, 100);
        book.addBerth(100, 2000);
        book.addShip(90, 200);
        book.addPilot(400, false);
        book.book(0, 0, 2819);
        Check.same("the one minute 2879", book.least(0), 2000 + 100 - 200);
    }

    private static void promise13EachMinute() {
        for (int minute = 59; minute <= 111; minute++) {
            PilotBook book = new PilotBook();
            book.addTide(minute - 1, 300);
            book.addTide(minute, 100);
            book.addTide(minute + 1, 300);
            book.addBerth(100, 2000);
            book.addShip(90, 200);
            book.addPilot(400, false);
            book.book(0, 0, 0);
            book.book(0, -1, 110);
            Check.same("leaves at 110", book.passage(1, 1), 110);
            int low = minute < 60 || minute > 110 ? 300 : 100;
            Check.same("the low water of minute " + minute, book.least(0), 2000 + low - 200);
        }
    }

    public static void main(String[] args) {
        promise11Need();
        promise12Window();
        promise12WrongCalls();
        promise13Least();
        promise13LeastBelowNothing();
        promise13BegunAtTheEnd();
        promise13EachMinute();
        Check.end();
    }
}
