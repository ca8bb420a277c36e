/** Books from which the tests of the boundary cases start, and what they often do with them. */
final class Books {
    /** Values far from every range of the document. */
    static final int[] FAR = {Integer.MIN_VALUE, Integer.MIN_VALUE + 1, Integer.MAX_VALUE - 1, Integer.MAX_VALUE};

    private Books() {
    }

    /** Six berths for every ship, eight tugs, pilots for every ship, and ships of these lengths. */
    static PilotBook deep(int pilotsAtSea, int pilotsInPort, int... lengths) {
        PilotBook book = new PilotBook();
        book.setTugs(8);
        for (int i = 0; i < 6; i++) {
            book.addBerth(400, 2500);
        }
        for (int i = 0; i < pilotsAtSea + pilotsInPort; i++) {
            book.addPilot(400, i >= pilotsAtSea);
        }
        for (int length : lengths) {
            book.addShip(length, 100);
        }
        return book;
    }

    /**
     * The tide is 100 at this one minute and 0 at all others, and ship 0 needs 1100: where a place is 1000 deep
     * it has enough water at this minute alone.
     */
    static PilotBook spike(int minute, int barDepth, int berthDepth) {
        PilotBook book = new PilotBook();
        if (minute > 0) {
            book.addTide(minute - 1, 0);
        }
        book.addTide(minute, 100);
        if (minute < 2879) {
            book.addTide(minute + 1, 0);
        }
        book.setWater(barDepth, 0);
        book.addBerth(90, berthDepth);
        book.addPilot(400, false);
        book.addShip(90, 1000);
        return book;
    }

    /** Books a passage that is due to begin at the very time from which it is asked for. */
    static void bookAt(PilotBook book, int ship, int berth, int time) {
        int number = book.book(ship, berth, time);
        Check.same("begin of passage " + number, book.passage(number, 1), time);
    }

    static void pilotOf(PilotBook book, int passage, int due) {
        Check.same("pilot of passage " + passage, book.passage(passage, 2), due);
    }
}
