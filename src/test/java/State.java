/** What a book answers: two books whose states are the same answer the same, as far as some 200 calls can tell. */
final class State {
    private static final int[] TIMES = {0, 1, 59, 60, 100, 160, 500, 559, 1000, 1440, 2000, 2819, 2878, 2879};

    private final PilotBook book;
    private final StringBuilder text = new StringBuilder();

    private State(PilotBook book) {
        this.book = book;
    }

    /** Only looks: the book stays as it is. */
    static String of(PilotBook book) {
        State state = new State(book);
        state.looks();
        return state.text.toString();
    }

    /** Also what comes out when all passages are taken back: the book is used up by it. */
    static String whole(PilotBook book) {
        State state = new State(book);
        state.looks();
        state.takeBack();
        return state.text.toString();
    }

    private interface Answer {
        Object get();
    }

    private void tell(String what, Answer answer) {
        text.append(what).append('=');
        try {
            text.append(answer.get());
        } catch (RuntimeException e) {
            text.append(Check.thrown(e));
        }
        text.append(' ');
    }

    private void looks() {
        for (int what = 0; what <= 4; what++) {
            int kind = what;
            tell("count", () -> book.count(kind));
        }
        for (int time : TIMES) {
            tell("height", () -> book.height(time));
            tell("freeTugs", () -> book.freeTugs(time));
        }
        int ships = book.count(2);
        for (int ship = 0; ship < ships; ship++) {
            int one = ship;
            tell("bar", () -> book.window(one, -1, 0));
            tell("least", () -> book.least(one));
            tell("in", () -> book.earliest(one, 0, 0));
            tell("out", () -> book.earliest(one, -1, 0));
        }
        int berths = book.count(1);
        for (int berth = 0; berth < berths; berth++) {
            int one = berth;
            tell("berth", () -> book.window(0, one, 0));
            tell("in to", () -> book.earliest(ships - 1, one, 0));
            tell("at 160", () -> book.occupant(one, 160));
            tell("at 2879", () -> book.occupant(one, 2879));
        }
        int pilots = book.count(3);
        for (int pilot = 0; pilot < pilots; pilot++) {
            int one = pilot;
            tell("trips", () -> book.trips(one));
            tell("isInPort", () -> book.isInPort(one));
        }
        tell("delay", () -> book.delay());
        tell("digest", () -> book.digest());
    }

    private void takeBack() {
        for (int left = book.count(4); left > 0; left--) {
            tell("cancel", () -> book.cancel());
        }
        tell("cancel", () -> book.cancel());
        tell("in", () -> book.earliest(0, 0, 0));
        tell("setTugs", () -> book.setTugs(0));
        tell("setWater", () -> book.setWater(300, 0));
        tell("addTide", () -> book.addTide(1234, 0));
        tell("digest", () -> book.digest());
    }
}
