import java.math.BigInteger;

/** The boundary cases that promises 1 to 23 name under their own headings. */
final class PromiseEdgesTest {
    private PromiseEdgesTest() {
    }

    // ---- 1 to 10

    private static void newObject() {
        PilotBook book = new PilotBook();
        for (int what = 0; what <= 4; what++) {
            Check.same("count(" + what + ")", book.count(what), 0);
        }
        Check.same("height(0)", book.height(0), 0);
        Check.same("the first berth", book.addBerth(20, 300), 0);
        Check.same("the first ship", book.addShip(20, 100), 0);
        Check.same("the first pilot", book.addPilot(20, false), 0);
        Check.same("the first point", book.addTide(0, 0), 1);
        Check.same("the first passage", book.book(0, 0, 0), 0);
    }

    private static void nothingBooked() {
        PilotBook book = new PilotBook();
        Check.noState(book, "cancel", () -> book.cancel());
        Check.same("delay", book.delay(), 0.0);
        Check.same("free tugs", book.freeTugs(0), 4);
    }

    private static void twoBooks() {
        PilotBook one = Books.deep(1, 1, 90);
        Books.bookAt(one, 0, 0, 0);
        one.setWater(300, 0);
        PilotBook other = new PilotBook();
        Check.same("ships of another book", other.count(2), 0);
        Check.same("passages of another book", other.count(4), 0);
        Check.same("tugs of another book", other.freeTugs(0), 4);
        Check.same("the bar of another book", other.setWater(300, 0), 1000);
    }

    private static void addTideWhileBooked() {
        PilotBook book = Books.deep(2, 0, 90, 90);
        Check.same("addTide with nothing booked", book.addTide(10, 0), 1);
        Books.bookAt(book, 0, 0, 100);
        Check.noState(book, "addTide with a passage", () -> book.addTide(11, 0));
        Books.bookAt(book, 1, 1, 200);
        Check.noState(book, "addTide with two passages", () -> book.addTide(11, 0));
        book.cancel();
        Check.noState(book, "addTide with one passage again", () -> book.addTide(11, 0));
        book.cancel();
        Check.same("addTide with nothing booked again", book.addTide(11, 0), 2);
    }

    private static void setWaterAnyTime() {
        PilotBook book = Books.deep(1, 0, 90);
        Check.same("setWater(300, 500)", book.setWater(300, 500), 1000);
        Check.same("need", book.need(0), 610);
        Check.same("setWater(2500, 0)", book.setWater(2500, 0), 300);
        Check.same("need", book.need(0), 110);
        Books.bookAt(book, 0, 0, 100);
        Check.same("setWater with a passage", book.setWater(300, 500), 2500);
        Check.same("the passage stays", book.passage(0, 1), 100);
    }

    private static void loadWhileBooked() {
        PilotBook book = Books.deep(1, 0, 90, 90);
        Books.bookAt(book, 0, 0, 100);
        Check.same("load with a passage", book.load(0, 2000), 100);
        Check.same("the passage stays, though it couldn't be booked now", book.passage(0, 1), 100);
        Check.same("the ship stays", book.occupant(0, 2879), 0);
        Check.same("passages", book.count(4), 1);
        Check.same("load again", book.load(0, 2000), 2000);
    }

    private static void setTugsWhileBooked() {
        PilotBook book = Books.deep(2, 0, 90, 220);
        Check.same("setTugs with nothing booked", book.setTugs(3), 8);
        Books.bookAt(book, 0, 0, 100);
        Check.noState(book, "setTugs with a passage that needs none", () -> book.setTugs(8));
        Check.noState(book, "setTugs to the same number", () -> book.setTugs(3));
        Books.bookAt(book, 1, 1, 200);
        book.cancel();
        Check.noState(book, "setTugs with one passage again", () -> book.setTugs(8));
        book.cancel();
        Check.same("setTugs with nothing booked again", book.setTugs(8), 3);
    }

    private static void countOfEach() {
        PilotBook book = Books.deep(2, 1, 90, 90, 90, 90);
        book.addTide(0, 0);
        Books.bookAt(book, 0, 0, 100);
        Books.bookAt(book, 1, 1, 200);
        int[] due = {1, 6, 4, 3, 2};
        for (int what = 0; what <= 4; what++) {
            Check.same("count(" + what + ")", book.count(what), due[what]);
        }
    }

    // ---- 11 to 13

    private static void needFollowsDraftAndMargin() {
        PilotBook book = Books.deep(0, 0, 90, 90);
        Check.same("need(1)", book.need(1), 160);
        book.load(1, 2000);
        book.setWater(1000, 500);
        Check.same("the largest need", book.need(1), 2700);
        book.load(1, 100);
        book.setWater(1000, 0);
        Check.same("the smallest need", book.need(1), 110);
        Check.same("the other ship", book.need(0), 110);
    }

    private static void windowFromATimeOn() {
        PilotBook book = Books.spike(1000, 1000, 2500);
        Check.same("the bar, from 0", book.window(0, -1, 0), 1000);
        Check.same("the bar, from 999", book.window(0, -1, 999), 1000);
        Check.same("the bar, from 1000", book.window(0, -1, 1000), 1000);
        Check.same("the bar, from 1001", book.window(0, -1, 1001), -1);
        Check.same("the berth, from 1001", book.window(0, 0, 1001), 1001);
        PilotBook berth = Books.spike(1000, 2500, 1000);
        Check.same("the bar", berth.window(0, -1, 5), 5);
        Check.same("the berth, from 5", berth.window(0, 0, 5), 1000);
        Check.same("the berth, from 1001", berth.window(0, 0, 1001), -1);
    }

    private static void windowUpToTheLastMinute() {
        PilotBook last = Books.spike(2879, 1000, 2500);
        Check.same("water at 2879 alone, from 0", last.window(0, -1, 0), 2879);
        Check.same("water at 2879 alone, from 2879", last.window(0, -1, 2879), 2879);
        PilotBook first = Books.spike(0, 1000, 2500);
        Check.same("water at 0 alone, from 0", first.window(0, -1, 0), 0);
        Check.same("water at 0 alone, from 1", first.window(0, -1, 1), -1);
    }

    private static void windowOfWaterAlone() {
        PilotBook book = new PilotBook();
        book.addShip(400, 100);
        book.addBerth(20, 300);
        Check.same("neither lengths nor pilots count", book.window(0, 0, 2879), 2879);
    }

    private static PilotBook low(int minute) {
        PilotBook book = new PilotBook();
        book.addTide(minute - 1, 0);
        book.addTide(minute, -100);
        if (minute < 2879) {
            book.addTide(minute + 1, 0);
        }
        book.addBerth(90, 1000);
        book.addBerth(90, 2000);
        book.addPilot(90, false);
        book.addShip(90, 200);
        return book;
    }

    private static void leastFromTheEnd() {
        int[] minutes = {159, 160, 161};
        int[] due = {800, 700, 700};
        for (int i = 0; i < minutes.length; i++) {
            PilotBook book = low(minutes[i]);
            Books.bookAt(book, 0, 0, 100);
            Check.same("low water at " + minutes[i], book.least(0), due[i]);
        }
    }

    private static void leastToTheBegin() {
        int[] minutes = {499, 500, 501, 560};
        int[] due = {700, 700, 800, 800};
        for (int i = 0; i < minutes.length; i++) {
            PilotBook book = low(minutes[i]);
            Books.bookAt(book, 0, 0, 100);
            Books.bookAt(book, 0, -1, 500);
            Check.same("low water at " + minutes[i], book.least(0), due[i]);
        }
    }

    private static void leastToTheLastMinute() {
        PilotBook book = low(2879);
        Books.bookAt(book, 0, 0, 100);
        Check.same("low water at 2879", book.least(0), 700);
        PilotBook late = low(2879);
        Books.bookAt(late, 0, 0, 2819);
        Check.same("its end is 2879", late.least(0), 700);
        PilotBook ahead = low(2878);
        Books.bookAt(ahead, 0, 0, 2819);
        Check.same("low water ahead of its end", ahead.least(0), 800);
    }

    private static void leastOfOneMinute() {
        PilotBook book = low(160);
        book.addPilot(90, true);
        Books.bookAt(book, 0, 0, 100);
        Books.bookAt(book, 0, -1, 160);
        Check.same("the end and the begin are one minute", book.least(0), 700);
        PilotBook other = low(159);
        other.addPilot(90, true);
        Books.bookAt(other, 0, 0, 100);
        Books.bookAt(other, 0, -1, 160);
        Check.same("no other minute counts", other.least(0), 800);
    }

    private static void leastByTheLatestInbound() {
        PilotBook book = low(300);
        Books.bookAt(book, 0, 0, 100);
        Books.bookAt(book, 0, -1, 400);
        Check.same("behind its outbound one", book.least(0), 700);
        Books.bookAt(book, 0, 1, 600);
        Check.same("by the second inbound one", book.least(0), 1800);
        Books.bookAt(book, 0, -1, 900);
        Check.same("behind the second outbound one", book.least(0), 1800);
        book.cancel();
        book.cancel();
        Check.same("by the first inbound one again", book.least(0), 700);
        book.load(0, 2000);
        Check.same("below nothing", book.least(0), -1100);
    }

    private static void leastWithoutInbound() {
        PilotBook book = Books.deep(2, 0, 90, 90);
        Check.noState(book, "least at first", () -> book.least(0));
        Books.bookAt(book, 1, 0, 100);
        Check.noState(book, "least, another ship had one", () -> book.least(0));
        Check.same("least of the other ship", book.least(1), 2400);
        book.cancel();
        Check.noState(book, "least behind the cancel", () -> book.least(1));
    }

    // ---- 14 to 16

    private static void earliestFromATimeOn() {
        PilotBook book = Books.deep(1, 0, 90);
        int[] times = {0, 1, 59, 60, 2818, 2819};
        for (int time : times) {
            Check.same("earliest from " + time, book.earliest(0, 0, time), time);
        }
        int[] lateTimes = {2820, 2878, 2879};
        for (int time : lateTimes) {
            Check.same("earliest from " + time, book.earliest(0, 0, time), -1);
        }
        Check.same("nothing is booked", book.count(4), 0);
    }

    private static void latestPassageOfTheShip() {
        PilotBook book = Books.deep(3, 2, 90);
        Check.same("out without a passage", book.earliest(0, -1, 500), -1);
        Books.bookAt(book, 0, 0, 500);
        Check.same("in behind an inbound one", book.earliest(0, 1, 600), -1);
        Check.same("in again to its berth", book.earliest(0, 0, 600), -1);
        Check.same("in ahead of its inbound one", book.earliest(0, 1, 0), -1);
        Books.bookAt(book, 0, -1, 700);
        Check.same("out behind an outbound one", book.earliest(0, -1, 900), -1);
        Check.same("in behind an outbound one", book.earliest(0, 1, 900), 900);
        book.cancel();
        Check.same("out behind the inbound one again", book.earliest(0, -1, 900), 900);
    }

    private static void latestPassageHasEnded() {
        PilotBook book = Books.deep(3, 3, 90);
        Books.bookAt(book, 0, 0, 500);
        int[] times = {0, 500, 559, 560, 561};
        int[] due = {560, 560, 560, 560, 561};
        for (int i = 0; i < times.length; i++) {
            Check.same("out from " + times[i], book.earliest(0, -1, times[i]), due[i]);
        }
        Books.bookAt(book, 0, -1, 560);
        for (int i = 0; i < times.length; i++) {
            Check.same("in from " + (times[i] + 60), book.earliest(0, 1, times[i] + 60), due[i] + 60);
        }
    }

    private static void bookTellsItsNumber() {
        PilotBook book = Books.deep(3, 3, 90, 90);
        Check.same("the first", book.book(0, 0, 100), 0);
        Check.same("the second", book.book(1, 1, 100), 1);
        Check.same("it begins at the earliest minute", book.passage(1, 1), 120);
        int earliest = book.earliest(0, -1, 130);
        Check.same("the third", book.book(0, -1, 130), 2);
        Check.same("it begins when earliest() said", book.passage(2, 1), earliest);
    }

    private static void bookWithoutAMinute() {
        PilotBook book = Books.deep(1, 0, 90, 90);
        Check.noState(book, "out from the sea", () -> book.book(0, -1, 0));
        Check.noState(book, "too late", () -> book.book(0, 0, 2820));
        Books.bookAt(book, 0, 0, 2000);
        Check.noState(book, "in from a berth", () -> book.book(0, 1, 0));
        Check.noState(book, "a berth that is held", () -> book.book(1, 0, 0));
        book.load(1, 2000);
        Check.noState(book, "too little water", () -> book.book(1, 1, 0));
        book.load(1, 100);
        Check.same("none of these was booked", book.book(1, 1, 0), 1);
    }

    private static void bookOfAFullBook() {
        PilotBook book = Books.deep(6, 0, 90, 90, 90, 90, 90, 90);
        for (int i = 0; i < 39; i++) {
            Check.same("book", book.book(i % 5, i / 5 % 2 == 1 ? -1 : i % 5, 0), i);
        }
        int begin = book.earliest(5, 5, 0);
        Check.same("a minute for one more", begin >= 0, true);
        Check.same("the 40th", book.book(5, 5, 0), 39);
        Check.same("there is a minute for a 41st", book.earliest(4, -1, 0) >= 0, true);
        Check.noState(book, "the 41st", () -> book.book(4, -1, 0));
        Check.same("cancel", book.cancel(), 5);
        Check.same("the 40th is another", book.book(4, -1, 0), 39);
        Check.noState(book, "the 41st", () -> book.book(5, 5, 0));
    }

    private static void cancelOfTheLastBooked() {
        PilotBook book = Books.deep(3, 0, 90, 90, 90);
        Books.bookAt(book, 2, 0, 2000);
        Books.bookAt(book, 0, 1, 1000);
        Books.bookAt(book, 1, 2, 0);
        Check.same("the ship that was booked last, though it begins first", book.cancel(), 1);
        Check.same("the next one", book.cancel(), 0);
        Check.same("its passage is gone", book.occupant(1, 2879), -1);
        Check.same("passages", book.count(4), 1);
        Check.same("the first one", book.cancel(), 2);
        Check.noState(book, "cancel of none", () -> book.cancel());
        Check.noState(book, "cancel of none again", () -> book.cancel());
    }

    private static void cancelPutsAllBack() {
        PilotBook book = Books.deep(1, 0, 160);
        String atSea = State.of(book);
        for (int turn = 0; turn < 2; turn++) {
            Books.bookAt(book, 0, 0, 100);
            Check.same("in port", book.isInPort(0), true);
            Books.bookAt(book, 0, -1, 500);
            Check.same("cancel of the outbound one", book.cancel(), 0);
            Check.same("in port again", book.isInPort(0), true);
            Check.same("its tugs are free", book.freeTugs(500), 8);
            Check.same("at its berth for ever again", book.occupant(0, 2879), 0);
            Check.same("trips", book.trips(0), 1);
            Check.same("it can go out again", book.earliest(0, -1, 0), 190);
            Check.same("cancel of the inbound one", book.cancel(), 0);
            Check.same("at sea again", book.isInPort(0), false);
            Check.same("the berth is free", book.occupant(0, 100), -1);
            Check.same("trips", book.trips(0), 0);
            Check.same("it can come in again", book.earliest(0, 0, 0), 0);
        }
        Check.same("all is as it was", State.of(book), atSea);
    }

    private static void cancelOfASecondStay() {
        PilotBook book = Books.deep(1, 0, 90, 90);
        Books.bookAt(book, 0, 0, 100);
        Books.bookAt(book, 0, -1, 500);
        Books.bookAt(book, 0, 1, 1000);
        Check.same("cancel of the second inbound one", book.cancel(), 0);
        Check.same("the second stay is gone", book.occupant(1, 1000), -1);
        Check.same("the first stay is as it was", book.occupant(0, 559), 0);
        Check.same("its end is as it was", book.occupant(0, 560), -1);
        Check.same("gone for ever", book.occupant(0, 2879), -1);
        Check.same("it can come in again", book.earliest(0, 0, 0), 590);
        Check.same("another ship can come in", book.earliest(1, 0, 0), 590);
    }

    // ---- 17 to 23

    private static void passageAndWhat() {
        PilotBook book = Books.deep(1, 1, 99, 220);
        Books.bookAt(book, 1, 5, 2);
        Books.bookAt(book, 1, -1, 200);
        int[][] due = {{1, 2, 0, 3, 5, 0}, {1, 200, 1, 3, 5, 1}};
        for (int passage = 0; passage < 2; passage++) {
            for (int what = 0; what <= 5; what++) {
                Check.same("passage(" + passage + ", " + what + ")", book.passage(passage, what), due[passage][what]);
            }
        }
        book.cancel();
    }

    private static void occupantOrNone() {
        PilotBook book = Books.deep(1, 1, 90, 90);
        Check.same("none at first", book.occupant(0, 0), -1);
        Check.same("none at first", book.occupant(5, 2879), -1);
        Books.bookAt(book, 1, 0, 0);
        Check.same("from 0 on", book.occupant(0, 0), 1);
        Check.same("to 2879", book.occupant(0, 2879), 1);
        Check.same("the berth beside", book.occupant(1, 0), -1);
    }

    private static void oneShipBehindTheOther() {
        PilotBook book = Books.deep(4, 2, 90, 90);
        Books.bookAt(book, 0, 0, 0);
        Books.bookAt(book, 0, -1, 100);
        Books.bookAt(book, 1, 0, 160);
        Check.same("the first ship's last minute", book.occupant(0, 159), 0);
        Check.same("the second ship's first minute", book.occupant(0, 160), 1);
    }

    private static void freeTugsDownToNone() {
        PilotBook book = Books.deep(3, 0, 220, 220, 160);
        book.setTugs(6);
        Check.same("all are free", book.freeTugs(0), 6);
        Books.bookAt(book, 0, 0, 0);
        Books.bookAt(book, 1, 1, 20);
        int[] times = {19, 20, 39, 40, 59, 60, 79, 80};
        int[] due = {6, 3, 3, 0, 0, 3, 3, 6};
        for (int i = 0; i < times.length; i++) {
            Check.same("free tugs at " + times[i], book.freeTugs(times[i]), due[i]);
        }
    }

    private static void tripsOfAPilot() {
        PilotBook book = Books.deep(1, 1, 90, 90);
        Check.same("none at first", book.trips(0), 0);
        Books.bookAt(book, 0, 0, 0);
        Books.bookAt(book, 0, -1, 100);
        Books.bookAt(book, 1, 1, 300);
        Check.same("both ways count", book.trips(0), 2);
        Check.same("the other pilot", book.trips(1), 1);
        book.cancel();
        Check.same("one less behind the cancel", book.trips(0), 1);
    }

    private static void inPortBehindAll() {
        PilotBook book = Books.deep(1, 1, 90);
        Check.same("without passages, at sea at first", book.isInPort(0), false);
        Check.same("without passages, in port at first", book.isInPort(1), true);
        Books.bookAt(book, 0, 0, 2000);
        Check.same("behind an inbound one", book.isInPort(0), true);
        Books.bookAt(book, 0, -1, 2100);
        Check.same("behind an outbound one", book.isInPort(1), false);
    }

    private static void delayOfNone() {
        PilotBook book = Books.deep(1, 0, 90);
        Check.same("at first", book.delay(), 0.0);
        Books.bookAt(book, 0, 0, 7);
        Check.same("one that begins at once", book.delay(), 0.0);
        book.cancel();
        Check.same("behind the cancel", book.delay(), 0.0);
    }

    private static void delayIsAMean() {
        PilotBook book = Books.deep(1, 1, 90, 90);
        Books.bookAt(book, 0, 0, 0);
        book.book(0, -1, 0);
        Check.same("60 minutes of two", book.delay(), 30.0);
        book.book(1, 1, 119);
        Check.same("begin of passage 2", book.passage(2, 1), 150);
        Check.same("91 minutes of three", book.delay(), 91.0 / 3);
        PilotBook first = Books.deep(0, 1, 90);
        first.book(0, 0, 7);
        Check.same("53 minutes of one", first.delay(), 53.0);
        Books.bookAt(first, 0, -1, 500);
        Check.same("53 minutes of two", first.delay(), 26.5);
        PilotBook last = Books.deep(1, 0, 90, 90);
        Books.bookAt(last, 0, 0, 2669);
        last.book(1, 1, 0);
        Check.same("2819 minutes of two", last.delay(), 1409.5);
    }

    private static long digestOf(int... numbers) {
        BigInteger d = BigInteger.valueOf(307);
        for (int x : numbers) {
            d = d.multiply(BigInteger.valueOf(31)).add(BigInteger.valueOf(x));
        }
        return d.longValue();
    }

    private static void digestWrapsAround() {
        PilotBook book = new PilotBook();
        Check.same("a new book", book.digest(), digestOf(0, 0, 0, 0, 0, 1000, 50, 4));
        book.addShip(90, 109);
        book.addShip(220, 2000);
        Check.same("with two ships", book.digest(), digestOf(0, 0, 2, 0, 0, 1000, 50, 4, 109, 169, 2000, 2250));
        PilotBook booked = Books.deep(1, 1, 220);
        booked.setWater(2500, 500);
        Books.bookAt(booked, 0, 5, 7);
        Books.bookAt(booked, 0, -1, 100);
        Check.same("with two passages", booked.digest(), digestOf(0, 6, 1, 2, 2, 2500, 500, 8, 100, 610,
                0, 7, 0, 3, 5, 0, 0, 100, 1, 3, 5, 1));
    }

    private static void digestOfAFullBook() {
        PilotBook book = Books.deep(6, 0, 90, 90, 90, 90, 90);
        int[] numbers = new int[8 + 10 + 240];
        int[] first = {0, 6, 5, 6, 40, 1000, 50, 8, 100, 160, 100, 160, 100, 160, 100, 160, 100, 160};
        System.arraycopy(first, 0, numbers, 0, first.length);
        for (int i = 0; i < 40; i++) {
            book.book(i % 5, i / 5 % 2 == 1 ? -1 : i % 5, 0);
            for (int what = 0; what <= 5; what++) {
                numbers[first.length + i * 6 + what] = book.passage(i, what);
            }
        }
        Check.same("with 40 passages", book.digest(), digestOf(numbers));
    }

    private static void harbour() {
        Check.sentence("Creates a book without a tide, berths, ships and pilots.", PromiseEdgesTest::newObject);
        Check.sentence("Creates a book without a tide, berths, ships and pilots. (passages)",
                PromiseEdgesTest::nothingBooked);
        Check.sentence("Creates a book", PromiseEdgesTest::twoBooks);
        Check.sentence("addTide: or a passage is booked", PromiseEdgesTest::addTideWhileBooked);
        Check.sentence("setWater: sets the depth of the bar, and the margin; returns the depth before",
                PromiseEdgesTest::setWaterAnyTime);
        Check.sentence("load: passages that are booked stay", PromiseEdgesTest::loadWhileBooked);
        Check.sentence("setTugs: if a passage is booked", PromiseEdgesTest::setTugsWhileBooked);
        Check.sentence("count: 0 points of the tide, 1 berths, 2 ships, 3 pilots, 4 passages",
                PromiseEdgesTest::countOfEach);
    }

    private static void water() {
        Check.sentence("need: returns its need of water", PromiseEdgesTest::needFollowsDraftAndMargin);
        Check.sentence("window: the first minute from a time on", PromiseEdgesTest::windowFromATimeOn);
        Check.sentence("window: -1 if there is none up to 2879", PromiseEdgesTest::windowUpToTheLastMinute);
        Check.sentence("window: at which there is enough water for a ship", PromiseEdgesTest::windowOfWaterAlone);
        Check.sentence("least: from the end of this passage, with it", PromiseEdgesTest::leastFromTheEnd);
        Check.sentence("least: to the begin of the outbound one behind it, with it", PromiseEdgesTest::leastToTheBegin);
        Check.sentence("least: (or to 2879), with it", PromiseEdgesTest::leastToTheLastMinute);
        Check.sentence("least: both with them", PromiseEdgesTest::leastOfOneMinute);
        Check.sentence("least: by its latest inbound passage", PromiseEdgesTest::leastByTheLatestInbound);
        Check.sentence("least: if it had no inbound passage", PromiseEdgesTest::leastWithoutInbound);
    }

    private static void passages() {
        Check.sentence("earliest: from a time on; -1 if there is none", PromiseEdgesTest::earliestFromATimeOn);
        Check.sentence("earliest: no passage, or an outbound one as its latest; an outbound ship an inbound one",
                PromiseEdgesTest::latestPassageOfTheShip);
        Check.sentence("earliest: this must have ended at that minute or ahead of it",
                PromiseEdgesTest::latestPassageHasEnded);
        Check.sentence("book: returns the number of the passage", PromiseEdgesTest::bookTellsItsNumber);
        Check.sentence("book: if earliest() is -1", PromiseEdgesTest::bookWithoutAMinute);
        Check.sentence("book: or there are 40 passages", PromiseEdgesTest::bookOfAFullBook);
        Check.sentence("cancel: the passage that was booked last; if there is none",
                PromiseEdgesTest::cancelOfTheLastBooked);
        Check.sentence("cancel: takes the passage back", PromiseEdgesTest::cancelPutsAllBack);
        Check.sentence("cancel: takes the passage back (a second stay)", PromiseEdgesTest::cancelOfASecondStay);
    }

    private static void looks() {
        Check.sentence("passage: what: 0 to 5", PromiseEdgesTest::passageAndWhat);
        Check.sentence("occupant: -1 if none has", PromiseEdgesTest::occupantOrNone);
        Check.sentence("occupant: the ship that has it at this time", PromiseEdgesTest::oneShipBehindTheOther);
        Check.sentence("freeTugs: how many tugs are not needed at this time", PromiseEdgesTest::freeTugsDownToNone);
        Check.sentence("trips: the number of its passages", PromiseEdgesTest::tripsOfAPilot);
        Check.sentence("isInPort: behind all its passages", PromiseEdgesTest::inPortBehindAll);
        Check.sentence("delay: 0 if there are none", PromiseEdgesTest::delayOfNone);
        Check.sentence("delay: the mean, over all passages", PromiseEdgesTest::delayIsAMean);
        Check.sentence("digest: which wraps around as a 64-bit integer", PromiseEdgesTest::digestWrapsAround);
        Check.sentence("digest: for each passage what passage() tells", PromiseEdgesTest::digestOfAFullBook);
    }

    public static void main(String[] args) {
        harbour();
        water();
        passages();
        looks();
        Check.end();
    }
}
