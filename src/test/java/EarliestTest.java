/** Promise 14: earliest, by the four points of "A passage can begin at a minute, if". */
final class EarliestTest {
    private EarliestTest() {
    }

    /** Deep water, six long berths, six pilots at sea and eight tugs; ships of length 90 need none of these. */
    private static PilotBook wideBook(int ships) {
        PilotBook book = new PilotBook();
        book.setTugs(8);
        for (int i = 0; i < 6; i++) {
            book.addBerth(400, 2500);
            book.addPilot(400, false);
        }
        for (int i = 0; i < ships; i++) {
            book.addShip(90, 100);
        }
        return book;
    }

    private static void bookAt(PilotBook book, int ship, int berth, int time) {
        int number = book.book(ship, berth, time);
        Check.same("begin of passage " + number, book.passage(number, 1), time);
    }

    private static void wrongCalls() {
        PilotBook book = wideBook(1);
        Check.noIndex(book, "ship -1", () -> book.earliest(-1, 0, 0));
        Check.noIndex(book, "ship 1", () -> book.earliest(1, 0, 0));
        Check.noIndex(book, "berth -2", () -> book.earliest(0, -2, 0));
        Check.noIndex(book, "berth 6", () -> book.earliest(0, 6, 0));
        Check.noIndex(book, "berth 6 and a wrong time", () -> book.earliest(0, 6, -1));
        Check.noIndex(book, "ship 1 and a wrong time", () -> book.earliest(1, -1, 2880));
        Check.noArgument(book, "time -1", () -> book.earliest(0, 0, -1));
        Check.noArgument(book, "time 2880", () -> book.earliest(0, -1, 2880));
        Check.same("earliest books nothing", book.earliest(0, 0, 0), 0);
        Check.same("earliest books nothing", book.count(4), 0);
        PilotBook empty = new PilotBook();
        Check.noIndex(empty, "an empty book", () -> empty.earliest(0, -1, 0));
        empty.addShip(20, 100);
        Check.noIndex(empty, "a book without berths", () -> empty.earliest(0, 0, 0));
        Check.same("a ship at sea can't leave", empty.earliest(0, -1, 0), -1);
    }

    private static void shipGoesInAndOut() {
        PilotBook book = wideBook(1);
        Check.same("out from the sea", book.earliest(0, -1, 0), -1);
        bookAt(book, 0, 0, 100);
        Check.same("in from a berth", book.earliest(0, 1, 1000), -1);
        Check.same("in from its own berth", book.earliest(0, 0, 1000), -1);
        Check.same("out, with another pilot", book.earliest(0, -1, 0), 160);
        bookAt(book, 0, -1, 200);
        Check.same("out again", book.earliest(0, -1, 1000), -1);
        Check.same("in again, from the end on", book.earliest(0, 1, 0), 260);
        Check.same("in again to its old berth", book.earliest(0, 0, 0), 260);
    }

    private static void shipOutAtItsEnd() {
        PilotBook book = new PilotBook();
        book.addBerth(90, 2500);
        book.addShip(90, 100);
        book.addPilot(90, false);
        book.addPilot(90, true);
        bookAt(book, 0, 0, 0);
        Check.same("out at the very end of the inbound one", book.earliest(0, -1, 0), 60);
    }

    private static void pointOneEnd() {
        PilotBook book = wideBook(2);
        Check.same("ends at 2879", book.earliest(0, 0, 2819), 2819);
        Check.same("ends at 2880", book.earliest(0, 0, 2820), -1);
        Check.same("the last time", book.earliest(0, 0, 2879), -1);
        bookAt(book, 0, 0, 0);
        Check.same("out, ends at 2879", book.earliest(0, -1, 2819), 2819);
        Check.same("out, ends at 2880", book.earliest(0, -1, 2820), -1);
    }

    private static void pointOneWaterInbound() {
        PilotBook book = wideBook(0);
        book.addTide(1000, 0);
        book.addTide(1100, 100);
        book.addTide(1200, 0);
        book.addShip(90, 1000);
        book.setWater(1050, 0);
        Check.same("bar at the begin, height 50", book.earliest(0, 0, 0), 1050);
        Check.same("bar at the begin, last", book.earliest(0, 0, 1150), 1150);
        Check.same("bar at the begin, too late", book.earliest(0, 0, 1151), -1);
        PilotBook shallow = new PilotBook();
        shallow.addPilot(400, false);
        shallow.addBerth(400, 1050);
        shallow.addTide(1000, 0);
        shallow.addTide(1100, 100);
        shallow.addTide(1200, 0);
        shallow.addShip(90, 1000);
        shallow.setWater(2500, 0);
        Check.same("berth at the end, height 50", shallow.earliest(0, 0, 0), 990);
        Check.same("berth at the end, last", shallow.earliest(0, 0, 1090), 1090);
        Check.same("berth at the end, too late", shallow.earliest(0, 0, 1091), -1);
    }

    private static void pointOneWaterOutbound() {
        PilotBook book = new PilotBook();
        book.addPilot(400, false);
        book.addBerth(400, 1050);
        book.addTide(1000, 0);
        book.addTide(1100, 100);
        book.addTide(1200, 0);
        book.addShip(90, 100);
        book.setWater(2500, 0);
        bookAt(book, 0, 0, 0);
        book.load(0, 1000);
        Check.same("berth at the begin", book.earliest(0, -1, 0), 1050);
        Check.same("berth at the begin, last", book.earliest(0, -1, 1150), 1150);
        Check.same("berth at the begin, too late", book.earliest(0, -1, 1151), -1);
        book.load(0, 950);
        book.setWater(995, 0);
        Check.same("bar at the end, height 50", book.earliest(0, -1, 0), 990);
        Check.same("bar at the end, last", book.earliest(0, -1, 1090), 1090);
        Check.same("bar at the end, too late", book.earliest(0, -1, 1091), -1);
    }

    private static void pointOneBerthLength() {
        PilotBook book = new PilotBook();
        book.addPilot(400, false);
        book.addBerth(150, 2500);
        book.addBerth(151, 2500);
        book.addShip(151, 100);
        book.addShip(150, 100);
        Check.same("a ship longer than the berth", book.earliest(0, 0, 0), -1);
        Check.same("a ship as long as the berth", book.earliest(0, 1, 0), 0);
        Check.same("a ship as long as the berth", book.earliest(1, 0, 0), 0);
    }

    private static void pointOneBerthHeld() {
        PilotBook book = wideBook(3);
        bookAt(book, 0, 0, 1000);
        Check.same("held for ever", book.earliest(1, 0, 2000), -1);
        Check.same("held for ever, asked from ahead of it", book.earliest(1, 0, 0), -1);
        Check.same("another berth", book.earliest(1, 1, 0), 0);
        bookAt(book, 0, -1, 1200);
        Check.same("free from the outbound one's end on", book.earliest(1, 0, 0), 1260);
        Check.same("free from the outbound one's end on", book.earliest(1, 0, 1260), 1260);
        bookAt(book, 1, 0, 1260);
        Check.same("held again", book.earliest(2, 0, 0), -1);
        Check.same("held again", book.earliest(0, 0, 0), -1);
        bookAt(book, 1, -1, 2000);
        Check.same("behind both", book.earliest(2, 0, 0), 2060);
        Check.same("behind the other ship", book.earliest(0, 0, 0), 2060);
        book.cancel();
        Check.same("held for ever again", book.earliest(2, 0, 0), -1);
    }

    private static void pointTwoSameDirection() {
        PilotBook book = wideBook(4);
        bookAt(book, 0, 0, 500);
        Check.same("20 ahead", book.earliest(1, 1, 480), 480);
        Check.same("19 ahead", book.earliest(1, 1, 481), 520);
        Check.same("at the same minute", book.earliest(1, 1, 500), 520);
        Check.same("19 behind", book.earliest(1, 1, 519), 520);
        Check.same("20 behind", book.earliest(1, 1, 520), 520);
        bookAt(book, 1, 1, 539);
        Check.same("no gap of 40 between 500 and 539", book.earliest(2, 2, 485), 559);
        book.cancel();
        bookAt(book, 1, 1, 540);
        Check.same("a gap of 40 between 500 and 540", book.earliest(2, 2, 485), 520);
    }

    private static void pointTwoOtherDirection() {
        PilotBook book = wideBook(2);
        bookAt(book, 0, 0, 100);
        bookAt(book, 0, -1, 500);
        Check.same("60 ahead", book.earliest(1, 1, 440), 440);
        Check.same("59 ahead", book.earliest(1, 1, 441), 560);
        Check.same("59 behind", book.earliest(1, 1, 559), 560);
        bookAt(book, 1, 1, 1000);
        PilotBook back = wideBook(2);
        bookAt(back, 0, 0, 100);
        bookAt(back, 1, 1, 500);
        Check.same("out 60 ahead", back.earliest(0, -1, 440), 440);
        Check.same("out 59 ahead", back.earliest(0, -1, 441), 560);
        Check.same("out 60 behind", back.earliest(0, -1, 560), 560);
    }

    private static void pointTwoSameDirectionOutbound() {
        PilotBook book = wideBook(2);
        bookAt(book, 0, 0, 0);
        bookAt(book, 1, 1, 20);
        bookAt(book, 0, -1, 500);
        Check.same("out 20 ahead", book.earliest(1, -1, 480), 480);
        Check.same("out 19 ahead", book.earliest(1, -1, 481), 520);
        Check.same("out 19 behind", book.earliest(1, -1, 519), 520);
    }

    /** Berths and pilots for all, and as many tugs as said. */
    private static PilotBook tugBook(int tugs, int... lengths) {
        PilotBook book = wideBook(0);
        book.setTugs(tugs);
        for (int length : lengths) {
            book.addShip(length, 100);
        }
        return book;
    }

    private static void pointThreeNeeds() {
        int[] lengths = {20, 99, 100, 159, 160, 219, 220, 400};
        int[] needs = {0, 0, 1, 1, 2, 2, 3, 3};
        for (int i = 0; i < lengths.length; i++) {
            PilotBook just = tugBook(needs[i], lengths[i]);
            Check.same("enough tugs for " + lengths[i], just.earliest(0, 0, 7), 7);
            just.book(0, 0, 7);
            Check.same("tugs of " + lengths[i], just.passage(0, 3), needs[i]);
            if (needs[i] > 0) {
                PilotBook few = tugBook(needs[i] - 1, lengths[i]);
                Check.same("too few tugs for " + lengths[i], few.earliest(0, 0, 7), -1);
            }
        }
    }

    private static void pointThreeInbound() {
        PilotBook book = tugBook(3, 160, 160, 100, 99);
        bookAt(book, 0, 0, 500);
        Check.same("two of three tugs, 40 ahead", book.earliest(1, 1, 460), 460);
        Check.same("two of three tugs, 39 ahead", book.earliest(1, 1, 461), 540);
        Check.same("two of three tugs, 39 behind", book.earliest(1, 1, 539), 540);
        Check.same("the third tug", book.earliest(2, 1, 500), 520);
        Check.same("no tug", book.earliest(3, 1, 500), 520);
        bookAt(book, 2, 1, 520);
        Check.same("no tug behind both", book.earliest(3, 2, 500), 540);
        Check.same("behind both", book.earliest(1, 2, 461), 540);
    }

    private static void pointThreeRiseInTheMiddle() {
        PilotBook book = tugBook(4, 160, 160, 160, 220);
        bookAt(book, 0, 0, 500);
        bookAt(book, 1, 1, 520);
        Check.same("one fits ahead of the two", book.earliest(2, 2, 470), 470);
        Check.same("one fits behind the first of the two", book.earliest(2, 2, 481), 540);
        bookAt(book, 2, 2, 480);
        Check.same("three of four are free ahead of all", book.earliest(3, 3, 440), 440);
        Check.same("three of four are free behind all", book.earliest(3, 3, 441), 560);
        PilotBook gap = tugBook(3, 100, 100, 220);
        bookAt(gap, 0, 0, 500);
        bookAt(gap, 1, 1, 579);
        Check.same("the need of a later one begins in the middle", gap.earliest(2, 2, 520), 619);
        gap.cancel();
        bookAt(gap, 1, 1, 580);
        Check.same("just between both", gap.earliest(2, 2, 520), 540);
    }

    private static void pointThreeOutbound() {
        PilotBook book = tugBook(3, 160, 160);
        bookAt(book, 0, 0, 0);
        bookAt(book, 1, 1, 40);
        bookAt(book, 0, -1, 500);
        Check.same("out, 40 ahead", book.earliest(1, -1, 460), 460);
        Check.same("out, 39 ahead", book.earliest(1, -1, 461), 540);
        Check.same("out, 40 behind", book.earliest(1, -1, 540), 540);
    }

    private static void pointThreeBothDirections() {
        PilotBook book = tugBook(3, 220, 220);
        bookAt(book, 0, 0, 0);
        bookAt(book, 1, 1, 500);
        Check.same("out at the end of an inbound one", book.earliest(0, -1, 560), 560);
        Check.same("out ahead of an inbound one", book.earliest(0, -1, 440), 440);
    }

    private static void pointFourLimit() {
        PilotBook book = new PilotBook();
        book.addBerth(400, 2500);
        book.addShip(99, 100);
        Check.same("without pilots", book.earliest(0, 0, 0), -1);
        book.addPilot(98, false);
        Check.same("a limit below the length", book.earliest(0, 0, 0), -1);
        book.addPilot(99, false);
        Check.same("a limit of the length", book.earliest(0, 0, 0), 0);
        bookAt(book, 0, 0, 0);
        Check.same("the pilot with the limit", book.passage(0, 2), 1);
    }

    private static void pointFourFirstPassage() {
        PilotBook book = new PilotBook();
        book.addBerth(400, 2500);
        book.addShip(90, 100);
        book.addPilot(400, true);
        Check.same("in with a pilot in port", book.earliest(0, 0, 0), 60);
        Check.same("in with a pilot in port", book.earliest(0, 0, 60), 60);
        Check.same("in with a pilot in port", book.earliest(0, 0, 61), 61);
        book.addPilot(400, false);
        Check.same("in with a pilot at sea", book.earliest(0, 0, 0), 0);
        bookAt(book, 0, 0, 0);
        Check.same("the pilot at sea", book.passage(0, 2), 1);
    }

    private static void pointFourRest() {
        PilotBook book = new PilotBook();
        book.addBerth(400, 2500);
        book.addBerth(400, 2500);
        book.addShip(90, 100);
        book.addShip(90, 100);
        book.addPilot(400, false);
        bookAt(book, 0, 0, 1000);
        Check.same("out, on the same side: 30 behind the end", book.earliest(0, -1, 0), 1090);
        Check.same("out, 29 behind the end", book.earliest(0, -1, 1089), 1090);
        Check.same("out, 30 behind the end", book.earliest(0, -1, 1090), 1090);
        Check.same("in, on the other side: 90 behind the end", book.earliest(1, 1, 0), 1150);
        Check.same("in, 89 behind the end", book.earliest(1, 1, 1149), 1150);
        bookAt(book, 0, -1, 1090);
        Check.same("in behind an outbound one", book.earliest(1, 1, 0), 1180);
        bookAt(book, 1, 1, 1180);
        Check.same("out behind an inbound one", book.earliest(1, -1, 0), 1270);
        book.cancel();
        book.cancel();
        Check.same("in behind the inbound one again", book.earliest(1, 1, 0), 1150);
    }

    private static void pointFourNothingAhead() {
        PilotBook book = new PilotBook();
        book.addBerth(400, 2500);
        book.addBerth(400, 2500);
        book.addShip(90, 100);
        book.addShip(90, 100);
        book.addPilot(400, false);
        bookAt(book, 0, 0, 2700);
        Check.same("no passage ahead of the pilot's latest", book.earliest(1, 1, 0), -1);
        Check.same("out, too late", book.earliest(0, -1, 0), 2790);
    }

    private static void sideAfterOutbound() {
        PilotBook book = new PilotBook();
        book.addBerth(400, 2500);
        book.addBerth(400, 2500);
        book.addShip(90, 100);
        book.addShip(90, 100);
        book.addPilot(90, false);
        book.addPilot(90, true);
        bookAt(book, 0, 0, 0);
        bookAt(book, 1, 1, 200);
        Check.same("the first pilot came back", book.passage(1, 2), 1);
        bookAt(book, 0, -1, 300);
        Check.same("of both in port the one that ended earliest", book.passage(2, 2), 0);
        Check.same("out, by the pilot in port", book.earliest(1, -1, 300), 320);
        bookAt(book, 1, -1, 320);
        Check.same("its pilot", book.passage(3, 2), 1);
        Check.same("in, on the same side as the outbound ones ended", book.earliest(0, 0, 300), 390);
    }

    public static void main(String[] args) {
        wrongCalls();
        shipGoesInAndOut();
        shipOutAtItsEnd();
        pointOneEnd();
        pointOneWaterInbound();
        pointOneWaterOutbound();
        pointOneBerthLength();
        pointOneBerthHeld();
        pointTwoSameDirection();
        pointTwoOtherDirection();
        pointTwoSameDirectionOutbound();
        pointThreeNeeds();
        pointThreeInbound();
        pointThreeRiseInTheMiddle();
        pointThreeOutbound();
        pointThreeBothDirections();
        pointFourLimit();
        pointFourFirstPassage();
        pointFourRest();
        pointFourNothingAhead();
        sideAfterOutbound();
        Check.end();
    }
}
