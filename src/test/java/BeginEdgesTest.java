/** The boundary cases of "A passage can begin at a minute, if". */
final class BeginEdgesTest {
    private BeginEdgesTest() {
    }

    /** What earliest() tells from a minute ahead of this one on, from this one on, and from behind it on. */
    private static void around(PilotBook book, int ship, int berth, int minute, int ahead, int at, int behind) {
        String what = "earliest(" + ship + ", " + berth + ", ";
        Check.same(what + (minute - 1) + ")", book.earliest(ship, berth, minute - 1), ahead);
        Check.same(what + minute + ")", book.earliest(ship, berth, minute), at);
        Check.same(what + (minute + 1) + ")", book.earliest(ship, berth, minute + 1), behind);
    }

    // ---- (1)

    private static void endsAtTheLastMinute() {
        PilotBook book = Books.deep(1, 1, 90);
        around(book, 0, 0, 2819, 2818, 2819, -1);
        Books.bookAt(book, 0, 0, 0);
        around(book, 0, -1, 2819, 2818, 2819, -1);
        Check.noState(book, "book at 2820", () -> book.book(0, -1, 2820));
        Books.bookAt(book, 0, -1, 2819);
        PilotBook inbound = Books.deep(1, 1, 90);
        Check.noState(inbound, "book at 2820", () -> inbound.book(0, 0, 2820));
        Books.bookAt(inbound, 0, 0, 2819);
        Check.same("out behind the end", inbound.earliest(0, -1, 0), -1);
    }

    private static void waterAtTheLastMinute() {
        PilotBook berth = Books.spike(2879, 2500, 1000);
        Check.same("water at the berth at 2879 alone", berth.earliest(0, 0, 0), 2819);
        PilotBook bar = Books.spike(2879, 1000, 2500);
        Check.same("water at the bar too late", bar.earliest(0, 0, 0), -1);
        PilotBook first = Books.spike(0, 1000, 2500);
        Check.same("water at the bar at 0 alone", first.earliest(0, 0, 0), 0);
        Check.same("water at the bar at 0 alone", first.earliest(0, 0, 1), -1);
        PilotBook early = Books.spike(59, 2500, 1000);
        Check.same("water at the berth too early", early.earliest(0, 0, 0), -1);
    }

    private static void waterAtBoth() {
        PilotBook book = new PilotBook();
        book.setWater(1000, 0);
        book.addBerth(90, 1000);
        book.addPilot(400, false);
        book.addShip(90, 1000);
        // Water from 100 to 160 and at 500: only at 100 is there also some an hour behind.
        int[] times = {99, 100, 160, 161, 499, 500, 501};
        int[] heights = {0, 100, 100, 0, 0, 100, 0};
        for (int i = 0; i < times.length; i++) {
            book.addTide(times[i], heights[i]);
        }
        Check.same("water at the bar and at the berth", book.earliest(0, 0, 0), 100);
        Check.same("water at one of them at a time", book.earliest(0, 0, 101), -1);
        book.setWater(1000, 1);
        Check.same("a centimetre too few", book.earliest(0, 0, 0), -1);
    }

    private static void waterBetweenDoesNotCount() {
        PilotBook book = Books.deep(1, 0, 90);
        book.addTide(100, 0);
        book.addTide(101, -300);
        book.addTide(159, -300);
        book.addTide(160, 0);
        book.setWater(300, 190);
        Check.same("no water at sea and berth between both ends", book.earliest(0, 0, 100), 100);
        Check.same("no water at the bar a minute behind", book.earliest(0, 0, 101), 160);
    }

    private static void asLongAsTheBerth() {
        PilotBook book = new PilotBook();
        book.addBerth(20, 2500);
        book.addBerth(399, 2500);
        book.addBerth(400, 2500);
        book.addShip(20, 100);
        book.addShip(21, 100);
        book.addShip(400, 100);
        book.addPilot(400, false);
        Check.same("20 in 20", book.earliest(0, 0, 0), 0);
        Check.same("21 in 20", book.earliest(1, 0, 0), -1);
        Check.noState(book, "21 in 20", () -> book.book(1, 0, 0));
        Check.same("21 in 399", book.earliest(1, 1, 0), 0);
        Check.same("400 in 399", book.earliest(2, 1, 0), -1);
        Check.same("400 in 400", book.earliest(2, 2, 0), 0);
    }

    private static void noOtherShipThenOrLater() {
        PilotBook book = Books.deep(4, 2, 90, 90, 90);
        Books.bookAt(book, 0, 0, 1000);
        Check.same("held at this minute", book.earliest(1, 0, 1000), -1);
        Check.same("held later", book.earliest(1, 0, 0), -1);
        Check.same("held for ever", book.earliest(1, 0, 2819), -1);
        Check.same("the berth beside", book.earliest(1, 1, 0), 0);
        Books.bookAt(book, 0, -1, 1500);
        around(book, 1, 0, 1560, 1560, 1560, 1561);
        Check.same("held later, though with an end", book.earliest(1, 0, 0), 1560);
    }

    private static void itsOwnStayIsNoOtherShip() {
        PilotBook book = Books.deep(3, 1, 90, 90);
        Books.bookAt(book, 0, 0, 100);
        Books.bookAt(book, 0, -1, 200);
        Check.same("back from its own end on", book.earliest(0, 0, 0), 260);
        Books.bookAt(book, 0, 0, 400);
        Books.bookAt(book, 0, -1, 600);
        // Between both stays of ship 0 the berth is free, but ship 0 has it later.
        Check.same("another ship between both stays", book.earliest(1, 0, 270), 660);
        Check.same("its own end", book.earliest(0, 0, 0), 660);
    }

    private static void endsAtTheVeryEnd() {
        PilotBook book = Books.deep(2, 0, 90, 90);
        Books.bookAt(book, 0, 0, 0);
        Books.bookAt(book, 0, -1, 2760);
        Check.same("from 2820 on it is too late", book.earliest(1, 0, 0), -1);
        book.cancel();
        Books.bookAt(book, 0, -1, 2759);
        Check.same("from 2819 on", book.earliest(1, 0, 0), 2819);
    }

    // ---- (2)

    private static void noMinuteInCommon() {
        PilotBook out = Books.deep(4, 2, 90, 90);
        Books.bookAt(out, 0, 0, 0);
        Books.bookAt(out, 0, -1, 500);
        around(out, 1, 1, 440, 439, 440, 560);
        around(out, 1, 1, 560, 560, 560, 561);
        PilotBook in = Books.deep(4, 2, 90, 90);
        Books.bookAt(in, 0, 0, 0);
        Books.bookAt(in, 1, 1, 500);
        around(in, 0, -1, 440, 439, 440, 560);
        around(in, 0, -1, 560, 560, 560, 561);
    }

    private static void twentyMinutesInbound() {
        PilotBook book = Books.deep(4, 0, 90, 90);
        Books.bookAt(book, 0, 0, 500);
        around(book, 1, 1, 480, 479, 480, 520);
        around(book, 1, 1, 500, 520, 520, 520);
        around(book, 1, 1, 520, 520, 520, 521);
    }

    private static void twentyMinutesOutbound() {
        PilotBook book = Books.deep(2, 4, 90, 90);
        Books.bookAt(book, 0, 0, 0);
        Books.bookAt(book, 1, 1, 20);
        Books.bookAt(book, 0, -1, 500);
        around(book, 1, -1, 480, 479, 480, 520);
        around(book, 1, -1, 500, 520, 520, 520);
        around(book, 1, -1, 520, 520, 520, 521);
    }

    private static void betweenTwoOthers() {
        PilotBook book = Books.deep(4, 2, 90, 90, 90);
        Books.bookAt(book, 0, 0, 500);
        Books.bookAt(book, 1, 1, 540);
        around(book, 2, 2, 520, 520, 520, 560);
        book.cancel();
        Books.bookAt(book, 1, 1, 539);
        around(book, 2, 2, 520, 559, 559, 559);
        PilotBook both = Books.deep(5, 1, 90, 90, 90);
        Books.bookAt(both, 0, 0, 0);
        Books.bookAt(both, 1, 1, 500);
        Books.bookAt(both, 0, -1, 620);
        around(both, 2, 2, 560, 559, 560, 680);
    }

    // ---- (3)

    private static void asManyTugsAsItNeeds() {
        int[] lengths = {99, 100, 159, 160, 219, 220};
        int[] needs = {0, 1, 1, 2, 2, 3};
        for (int i = 0; i < lengths.length; i++) {
            for (int tugs = 0; tugs <= 4; tugs++) {
                PilotBook book = Books.deep(1, 0, lengths[i]);
                book.setTugs(tugs);
                int due = needs[i] <= tugs ? 7 : -1;
                Check.same("a length of " + lengths[i] + ", " + tugs + " tugs", book.earliest(0, 0, 7), due);
            }
        }
    }

    private static void besidesThoseOfOthersInbound() {
        PilotBook book = Books.deep(5, 0, 220, 160, 100);
        book.setTugs(4);
        Books.bookAt(book, 0, 0, 500);
        // The last 40 minutes of both must not meet: they begin 40 minutes apart.
        around(book, 1, 1, 460, 459, 460, 540);
        around(book, 1, 1, 540, 540, 540, 541);
        // One tug is left beside the three.
        around(book, 2, 1, 480, 479, 480, 520);
    }

    private static void besidesThoseOfOthersOutbound() {
        PilotBook book = Books.deep(3, 3, 220, 160, 100);
        book.setTugs(4);
        for (int i = 0; i < 3; i++) {
            Books.bookAt(book, i, i, i * 40);
        }
        Books.bookAt(book, 0, -1, 500);
        around(book, 1, -1, 460, 459, 460, 540);
        around(book, 1, -1, 540, 540, 540, 541);
        around(book, 2, -1, 480, 479, 480, 520);
    }

    private static void betweenTwoNeeds() {
        PilotBook book = Books.deep(6, 0, 160, 160, 220);
        book.setTugs(4);
        Books.bookAt(book, 0, 0, 500);
        Books.bookAt(book, 1, 1, 580);
        around(book, 2, 2, 540, 540, 540, 620);
        book.cancel();
        Books.bookAt(book, 1, 1, 579);
        around(book, 2, 2, 540, 619, 619, 619);
    }

    private static void noneNeededNoneMissed() {
        PilotBook book = Books.deep(3, 0, 220, 99, 100);
        book.setTugs(3);
        Books.bookAt(book, 0, 0, 500);
        Check.same("all tugs are needed", book.freeTugs(540), 0);
        Check.same("a ship that needs none", book.earliest(1, 1, 500), 520);
        Check.same("a ship that needs one", book.earliest(2, 1, 500), 540);
    }

    private static void tugsInEachDirection() {
        PilotBook book = Books.deep(4, 2, 220, 220);
        book.setTugs(3);
        Books.bookAt(book, 0, 0, 0);
        Books.bookAt(book, 1, 1, 500);
        // An hour apart, as (2) has it, needs of both directions never meet.
        around(book, 0, -1, 440, 439, 440, 560);
        around(book, 0, -1, 560, 560, 560, 561);
    }

    // ---- (4)

    private static void limitOfThePilot() {
        PilotBook book = Books.deep(0, 0, 150);
        Check.same("no pilot at all", book.earliest(0, 0, 0), -1);
        book.addPilot(149, false);
        Check.same("a limit of 149", book.earliest(0, 0, 0), -1);
        Check.noState(book, "a limit of 149", () -> book.book(0, 0, 0));
        book.addPilot(150, false);
        Check.same("a limit of 150", book.earliest(0, 0, 0), 0);
        book.book(0, 0, 0);
        Books.pilotOf(book, 0, 1);
    }

    private static void noPassageThenOrLater() {
        PilotBook book = Books.deep(1, 0, 90, 90);
        Books.bookAt(book, 0, 0, 1000);
        Check.same("in, long ahead of the pilot's passage", book.earliest(1, 1, 0), 1150);
        book.addPilot(400, false);
        Check.same("in, by another pilot", book.earliest(1, 1, 0), 0);
        book.book(1, 1, 0);
        Books.pilotOf(book, 1, 1);
        PilotBook late = Books.deep(1, 0, 90, 90);
        Books.bookAt(late, 0, 0, 2730);
        Check.same("2730 + 60 + 90 is too late", late.earliest(1, 1, 0), -1);
        PilotBook last = Books.deep(1, 0, 90, 90);
        Books.bookAt(last, 0, 0, 2669);
        Check.same("2669 + 60 + 90 is the last minute", last.earliest(1, 1, 0), 2819);
    }

    private static void thirtyMinutesOfRest() {
        PilotBook book = Books.deep(1, 0, 90, 90);
        Books.bookAt(book, 0, 0, 500);
        // It is in port then, where an outbound one wants it.
        around(book, 0, -1, 590, 590, 590, 591);
        Books.bookAt(book, 0, -1, 590);
        // It is at sea then, where an inbound one wants it.
        around(book, 1, 1, 680, 680, 680, 681);
    }

    private static void ninetyMinutesToTheOtherSide() {
        PilotBook port = Books.deep(1, 0, 90, 90);
        Books.bookAt(port, 0, 0, 500);
        around(port, 1, 1, 650, 650, 650, 651);
        PilotBook sea = Books.deep(1, 0, 90, 90);
        Books.bookAt(sea, 0, 0, 0);
        Books.bookAt(sea, 1, 1, 150);
        Books.bookAt(sea, 0, -1, 500);
        around(sea, 1, -1, 650, 650, 650, 651);
    }

    private static void theSideWhereThatPassageEnded() {
        PilotBook book = Books.deep(0, 1, 90, 90);
        // In port at first, but taken in: the side at first counts no longer.
        Books.bookAt(book, 0, 0, 60);
        Books.bookAt(book, 0, -1, 150);
        Check.same("in, from the side where it ended", book.earliest(1, 1, 0), 240);
        Books.bookAt(book, 1, 1, 240);
        Check.same("out, from the side where it ended", book.earliest(1, -1, 0), 330);
        book.cancel();
        book.cancel();
        Check.same("in, from the side where the first one ended", book.earliest(1, 1, 0), 210);
    }

    private static void pilotThatHadNone() {
        PilotBook port = Books.deep(0, 1, 90);
        around(port, 0, 0, 60, 60, 60, 61);
        Check.same("in from 0 on, the pilot in port", port.earliest(0, 0, 0), 60);
        PilotBook sea = Books.deep(1, 0, 90);
        Check.same("in from 0 on, the pilot at sea", sea.earliest(0, 0, 0), 0);
        PilotBook both = Books.deep(1, 1, 90, 90);
        Books.bookAt(both, 0, 0, 0);
        Check.same("in at 20 the pilot in port can't be there", both.earliest(1, 1, 0), 60);
        Check.same("out at 60 by the pilot in port", both.earliest(0, -1, 0), 60);
        PilotBook seas = Books.deep(2, 0, 90);
        Books.bookAt(seas, 0, 0, 0);
        Check.same("out at 60 by a pilot that had none, at sea", seas.earliest(0, -1, 0), 60);
    }

    private static void theWantedSide() {
        PilotBook in = Books.deep(1, 0, 90, 90);
        Books.bookAt(in, 0, 0, 500);
        Check.same("in port behind an inbound one", in.isInPort(0), true);
        Check.same("out from there", in.earliest(0, -1, 0), 590);
        Check.same("in from there", in.earliest(1, 1, 0), 650);
        PilotBook out = Books.deep(1, 0, 90, 90, 90);
        Books.bookAt(out, 0, 0, 0);
        Books.bookAt(out, 1, 1, 150);
        Books.bookAt(out, 0, -1, 500);
        Check.same("at sea behind an outbound one", out.isInPort(0), false);
        Check.same("in from there", out.earliest(2, 2, 0), 590);
        Check.same("out from there", out.earliest(1, -1, 0), 650);
    }

    private static void endedEarliest() {
        PilotBook book = Books.deep(3, 0, 90, 90, 90, 90, 90);
        Books.bookAt(book, 0, 0, 1000);
        Books.bookAt(book, 1, 1, 500);
        Books.bookAt(book, 2, 2, 600);
        Books.pilotOf(book, 0, 0);
        Books.pilotOf(book, 1, 1);
        Books.pilotOf(book, 2, 2);
        Books.bookAt(book, 3, 3, 2000);
        Books.pilotOf(book, 3, 1);
        // Pilot 1 ended earliest once, but its latest passage ended last of all.
        Books.bookAt(book, 4, 4, 2300);
        Books.pilotOf(book, 4, 2);
        Books.bookAt(book, 0, -1, 2600);
        Books.pilotOf(book, 5, 0);
    }

    private static void aMinuteEarlier() {
        PilotBook book = Books.deep(2, 0, 90, 90, 90);
        Books.bookAt(book, 0, 0, 520);
        Books.bookAt(book, 1, 1, 500);
        Books.bookAt(book, 2, 2, 1000);
        Books.pilotOf(book, 2, 1);
        // Of two that are in port and at sea it is still the one that ended earliest.
        PilotBook sides = Books.deep(2, 0, 90, 90, 90);
        Books.bookAt(sides, 0, 0, 0);
        Books.bookAt(sides, 1, 1, 200);
        Books.bookAt(sides, 0, -1, 400);
        Books.pilotOf(sides, 2, 0);
        Books.bookAt(sides, 2, 2, 1000);
        Books.pilotOf(sides, 3, 1);
    }

    private static void thatHadNoneComeFirst() {
        PilotBook book = Books.deep(1, 0, 90, 90, 90);
        Books.bookAt(book, 0, 0, 0);
        book.addPilot(400, true);
        book.addPilot(400, false);
        // Pilot 0 could come too, and pilot 1 is on the wrong side; but both others had none.
        Books.bookAt(book, 1, 1, 1000);
        Books.pilotOf(book, 1, 1);
        Books.bookAt(book, 2, 2, 2000);
        Books.pilotOf(book, 2, 2);
    }

    private static void theSmallestNumber() {
        PilotBook book = Books.deep(6, 0, 90, 90, 90, 90, 90, 90);
        for (int i = 0; i < 6; i++) {
            Books.bookAt(book, i, i, i * 20);
            Books.pilotOf(book, i, i);
        }
        PilotBook sides = Books.deep(1, 1, 90);
        Books.bookAt(sides, 0, 0, 60);
        Books.pilotOf(sides, 0, 0);
        PilotBook port = new PilotBook();
        port.addBerth(90, 2500);
        port.addShip(90, 100);
        port.addPilot(90, true);
        port.addPilot(90, false);
        Books.bookAt(port, 0, 0, 60);
        Books.pilotOf(port, 0, 0);
        port.cancel();
        Books.bookAt(port, 0, 0, 59);
        Books.pilotOf(port, 0, 1);
    }

    private static void water() {
        Check.sentence("it ends at 2879 at the latest", BeginEdgesTest::endsAtTheLastMinute);
        Check.sentence("it ends at 2879 at the latest, and there is enough water",
                BeginEdgesTest::waterAtTheLastMinute);
        Check.sentence("enough water for the ship at the bar and at the berth", BeginEdgesTest::waterAtBoth);
        Check.sentence("at the times at which it is there", BeginEdgesTest::waterBetweenDoesNotCount);
        Check.sentence("the berth is at least as long as the ship", BeginEdgesTest::asLongAsTheBerth);
        Check.sentence("no other ship has it at this minute or later", BeginEdgesTest::noOtherShipThenOrLater);
        Check.sentence("no other ship has it", BeginEdgesTest::itsOwnStayIsNoOtherShip);
        Check.sentence("no other ship has it, up to 2879", BeginEdgesTest::endsAtTheVeryEnd);
    }

    private static void way() {
        Check.sentence("no passage in the other direction has a minute in common with it",
                BeginEdgesTest::noMinuteInCommon);
        String gap = "no passage in the same direction begins less than 20 minutes ahead of it or behind it";
        Check.sentence(gap + " (inbound)", BeginEdgesTest::twentyMinutesInbound);
        Check.sentence(gap + " (outbound)", BeginEdgesTest::twentyMinutesOutbound);
        Check.sentence(gap + " (two others)", BeginEdgesTest::betweenTwoOthers);
    }

    private static void tugs() {
        Check.sentence("there are as many tugs as it needs", BeginEdgesTest::asManyTugsAsItNeeds);
        String others = "besides those that other passages need";
        Check.sentence(others + " (inbound)", BeginEdgesTest::besidesThoseOfOthersInbound);
        Check.sentence(others + " (outbound)", BeginEdgesTest::besidesThoseOfOthersOutbound);
        Check.sentence(others + " (both directions)", BeginEdgesTest::tugsInEachDirection);
        Check.sentence("in each minute in which it needs them", BeginEdgesTest::betweenTwoNeeds);
        Check.sentence("as many tugs as it needs (none)", BeginEdgesTest::noneNeededNoneMissed);
    }

    private static void pilots() {
        Check.sentence("a limit of at least the length of the ship", BeginEdgesTest::limitOfThePilot);
        Check.sentence("that has no passage that begins then or later", BeginEdgesTest::noPassageThenOrLater);
        Check.sentence("it ended at least 30 minutes ahead", BeginEdgesTest::thirtyMinutesOfRest);
        Check.sentence("if it is on the other side then, at least 90 minutes ahead",
                BeginEdgesTest::ninetyMinutesToTheOtherSide);
        Check.sentence("(the side where that passage ended)", BeginEdgesTest::theSideWhereThatPassageEnded);
        Check.sentence("a pilot that had none has to be on the right side, or the minute is at least 60",
                BeginEdgesTest::pilotThatHadNone);
        Check.sentence("An inbound passage wants a pilot at sea, an outbound one a pilot in port.",
                BeginEdgesTest::theWantedSide);
        Check.sentence("the one whose latest passage ended earliest", BeginEdgesTest::endedEarliest);
        Check.sentence("the one whose latest passage ended earliest, of two", BeginEdgesTest::aMinuteEarlier);
        Check.sentence("(those that had none come ahead of all others)", BeginEdgesTest::thatHadNoneComeFirst);
        Check.sentence("then the one with the smallest number", BeginEdgesTest::theSmallestNumber);
    }

    public static void main(String[] args) {
        water();
        way();
        tugs();
        pilots();
        Check.end();
    }
}
