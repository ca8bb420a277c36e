/** Promises 1 to 10: a new object, the tide, berths, ships, pilots and tugs. */
final class HarbourTest {
    private HarbourTest() {
    }

    /** A book in which the one passage (number 0) begins at 0: ship 0 to berth 0. */
    private static PilotBook withPassage() {
        PilotBook book = new PilotBook();
        book.addBerth(400, 2500);
        book.addShip(150, 100);
        book.addPilot(400, false);
        Check.same("book(0, 0, 0)", book.book(0, 0, 0), 0);
        return book;
    }

    private static void promise1NewObject() {
        PilotBook book = new PilotBook();
        for (int what = 0; what <= 4; what++) {
            Check.same("count of a new book", book.count(what), 0);
        }
        Check.same("height without points", book.height(0), 0);
        Check.same("height without points", book.height(2879), 0);
        Check.same("depth of the bar at first", book.setWater(300, 0), 1000);
        Check.same("tugs at first", book.setTugs(0), 4);
        PilotBook other = new PilotBook();
        Check.same("free tugs at first", other.freeTugs(0), 4);
        other.addShip(20, 100);
        Check.same("margin of 50 at first", other.need(0), 160);
    }

    private static void promise2AddTide() {
        PilotBook book = new PilotBook();
        Check.same("addTide", book.addTide(2879, -300), 1);
        Check.same("addTide", book.addTide(0, 900), 2);
        Check.same("addTide", book.addTide(1000, 0), 3);
        Check.same("points in any order", book.height(0), 900);
        Check.same("points in any order", book.height(1000), 0);
        Check.same("points in any order", book.height(2879), -300);
        Check.noArgument(book, "time -1", () -> book.addTide(-1, 0));
        Check.noArgument(book, "time 2880", () -> book.addTide(2880, 0));
        Check.noArgument(book, "height -301", () -> book.addTide(5, -301));
        Check.noArgument(book, "height 901", () -> book.addTide(5, 901));
        Check.noArgument(book, "a wrong height at a taken time", () -> book.addTide(0, 901));
        Check.noState(book, "a taken time", () -> book.addTide(0, 5));
        Check.noState(book, "a taken time", () -> book.addTide(1000, 0));
        Check.noState(book, "a taken time", () -> book.addTide(2879, -300));
        Check.same("the point stays", book.height(0), 900);
    }

    private static void promise2FullTide() {
        PilotBook book = new PilotBook();
        for (int i = 1; i <= 30; i++) {
            Check.same("addTide", book.addTide(i * 7 % 31 * 50, i), i);
        }
        for (int i = 1; i <= 30; i++) {
            Check.same("a point of thirty", book.height(i * 7 % 31 * 50), i);
        }
        Check.noState(book, "31 points", () -> book.addTide(2000, 0));
        Check.noArgument(book, "a wrong time with 30 points", () -> book.addTide(2880, 0));
        Check.same("points", book.count(0), 30);
    }

    private static void promise2BookedPassage() {
        PilotBook book = withPassage();
        Check.noState(book, "addTide with a passage", () -> book.addTide(0, 0));
        Check.noArgument(book, "a wrong time with a passage", () -> book.addTide(-1, 0));
        book.cancel();
        Check.same("addTide behind the cancel", book.addTide(0, 0), 1);
    }

    private static void promise3Height() {
        PilotBook book = new PilotBook();
        book.addTide(100, 100);
        Check.same("one point, ahead", book.height(0), 100);
        Check.same("one point, at", book.height(100), 100);
        Check.same("one point, behind", book.height(2879), 100);
        book.addTide(110, 115);
        book.addTide(117, -4);
        Check.same("ahead of the first", book.height(99), 100);
        Check.same("rising, cut", book.height(101), 101);
        Check.same("rising, whole", book.height(102), 103);
        Check.same("rising, cut", book.height(109), 113);
        Check.same("at the middle", book.height(110), 115);
        Check.same("falling by 17 whole", book.height(111), 98);
        Check.same("falling", book.height(116), 13);
        Check.same("at the last", book.height(117), -4);
        Check.same("behind the last", book.height(118), -4);
        Check.noArgument(book, "time -1", () -> book.height(-1));
        Check.noArgument(book, "time 2880", () -> book.height(2880));
    }

    private static void promise3CutTowardsZero() {
        PilotBook book = new PilotBook();
        book.addTide(0, 10);
        book.addTide(3, 0);
        book.addTide(6, -10);
        book.addTide(9, -10);
        Check.same("10 less 3 (of 3.33)", book.height(1), 7);
        Check.same("10 less 6 (of 6.67)", book.height(2), 4);
        Check.same("0 less 3", book.height(4), -3);
        Check.same("0 less 6", book.height(5), -6);
        Check.same("level", book.height(8), -10);
        PilotBook wide = new PilotBook();
        wide.addTide(0, 900);
        wide.addTide(2879, -300);
        Check.same("the widest fall", wide.height(2878), 900 - 1200 * 2878 / 2879);
    }

    private static void promise4SetWater() {
        PilotBook book = new PilotBook();
        book.addShip(20, 100);
        Check.same("setWater", book.setWater(300, 500), 1000);
        Check.same("need with the margin", book.need(0), 610);
        Check.same("the depth of the bar", book.window(0, -1, 0), -1);
        Check.same("setWater", book.setWater(2500, 0), 300);
        Check.same("need without a margin", book.need(0), 110);
        Check.same("the depth of the bar", book.window(0, -1, 0), 0);
        Check.noArgument(book, "depth 299", () -> book.setWater(299, 0));
        Check.noArgument(book, "depth 2501", () -> book.setWater(2501, 0));
        Check.noArgument(book, "margin -1", () -> book.setWater(1000, -1));
        Check.noArgument(book, "margin 501", () -> book.setWater(1000, 501));
        Check.same("it is as it was", book.setWater(1000, 50), 2500);
        PilotBook booked = withPassage();
        Check.same("setWater with a passage", booked.setWater(300, 0), 1000);
        Check.same("the passage stays", booked.passage(0, 1), 0);
    }

    private static void promise5AddBerth() {
        PilotBook book = new PilotBook();
        Check.noArgument(book, "length 19", () -> book.addBerth(19, 300));
        Check.noArgument(book, "length 401", () -> book.addBerth(401, 300));
        Check.noArgument(book, "depth 299", () -> book.addBerth(20, 299));
        Check.noArgument(book, "depth 2501", () -> book.addBerth(20, 2501));
        for (int i = 0; i < 6; i++) {
            Check.same("addBerth", book.addBerth(i % 2 == 0 ? 20 : 400, i % 2 == 0 ? 300 : 2500), i);
        }
        Check.noState(book, "7 berths", () -> book.addBerth(20, 300));
        Check.noArgument(book, "a wrong length with 6 berths", () -> book.addBerth(19, 300));
        Check.noArgument(book, "a wrong depth with 6 berths", () -> book.addBerth(20, 299));
        Check.same("berths", book.count(1), 6);
    }

    private static void promise6AddShip() {
        PilotBook book = new PilotBook();
        Check.noArgument(book, "length 19", () -> book.addShip(19, 100));
        Check.noArgument(book, "length 401", () -> book.addShip(401, 100));
        Check.noArgument(book, "draft 99", () -> book.addShip(20, 99));
        Check.noArgument(book, "draft 2001", () -> book.addShip(20, 2001));
        for (int i = 0; i < 16; i++) {
            Check.same("addShip", book.addShip(i % 2 == 0 ? 20 : 400, i % 2 == 0 ? 100 : 2000), i);
        }
        Check.noState(book, "17 ships", () -> book.addShip(20, 100));
        Check.noArgument(book, "a wrong length with 16 ships", () -> book.addShip(401, 100));
        Check.noArgument(book, "a wrong draft with 16 ships", () -> book.addShip(20, 99));
        Check.same("ships", book.count(2), 16);
    }

    private static void promise7Load() {
        PilotBook book = new PilotBook();
        book.addShip(20, 150);
        book.addShip(20, 250);
        Check.same("load", book.load(1, 2000), 250);
        Check.same("load", book.load(1, 100), 2000);
        Check.same("load", book.load(0, 777), 150);
        Check.same("need of the loaded ship", book.need(0), 777 + 77 + 50);
        Check.same("need of the other ship", book.need(1), 160);
        Check.noIndex(book, "ship -1", () -> book.load(-1, 100));
        Check.noIndex(book, "ship 2", () -> book.load(2, 100));
        Check.noIndex(book, "ship 2 and a wrong draft", () -> book.load(2, 99));
        Check.noArgument(book, "draft 99", () -> book.load(0, 99));
        Check.noArgument(book, "draft 2001", () -> book.load(0, 2001));
        PilotBook booked = withPassage();
        Check.same("load with a passage", booked.load(0, 2000), 100);
        Check.same("the passage stays", booked.count(4), 1);
        Check.same("the passage stays", booked.passage(0, 1), 0);
    }

    private static void promise8AddPilot() {
        PilotBook book = new PilotBook();
        Check.noArgument(book, "limit 19", () -> book.addPilot(19, true));
        Check.noArgument(book, "limit 401", () -> book.addPilot(401, false));
        for (int i = 0; i < 6; i++) {
            Check.same("addPilot", book.addPilot(i % 2 == 0 ? 20 : 400, i % 3 == 0), i);
            Check.same("its side at first", book.isInPort(i), i % 3 == 0);
        }
        Check.noState(book, "7 pilots", () -> book.addPilot(20, true));
        Check.noArgument(book, "a wrong limit with 6 pilots", () -> book.addPilot(19, true));
        Check.same("pilots", book.count(3), 6);
    }

    private static void promise9SetTugs() {
        PilotBook book = new PilotBook();
        Check.same("setTugs", book.setTugs(8), 4);
        Check.same("free tugs", book.freeTugs(0), 8);
        Check.same("setTugs", book.setTugs(0), 8);
        Check.same("free tugs", book.freeTugs(0), 0);
        Check.noArgument(book, "tugs -1", () -> book.setTugs(-1));
        Check.noArgument(book, "tugs 9", () -> book.setTugs(9));
        PilotBook booked = withPassage();
        Check.noState(booked, "setTugs with a passage", () -> booked.setTugs(8));
        Check.noArgument(booked, "wrong tugs with a passage", () -> booked.setTugs(9));
        booked.cancel();
        Check.same("setTugs behind the cancel", booked.setTugs(8), 4);
    }

    private static void promise10Count() {
        PilotBook book = withPassage();
        book.addShip(20, 100);
        book.addShip(20, 100);
        book.addPilot(20, false);
        Check.same("points", book.count(0), 0);
        Check.same("berths", book.count(1), 1);
        Check.same("ships", book.count(2), 3);
        Check.same("pilots", book.count(3), 2);
        Check.same("passages", book.count(4), 1);
        book.cancel();
        book.addTide(3, 3);
        book.addTide(4, 4);
        Check.same("points", book.count(0), 2);
        Check.same("passages", book.count(4), 0);
        Check.noIndex(book, "what -1", () -> book.count(-1));
        Check.noIndex(book, "what 5", () -> book.count(5));
    }

    public static void main(String[] args) {
        promise1NewObject();
        promise2AddTide();
        promise2FullTide();
        promise2BookedPassage();
        promise3Height();
        promise3CutTowardsZero();
        promise4SetWater();
        promise5AddBerth();
        promise6AddShip();
        promise7Load();
        promise8AddPilot();
        promise9SetTugs();
        promise10Count();
        Check.end();
    }
}
