/** Counts the answers that are not due, and ends a test with exit code 1 if there was one. */
final class Check {
    interface Call {
        void run();
    }

    private static int wrong = 0;
    private static int checked = 0;
    private static String sentence = "";

    private Check() {
    }

    /** Runs the test of one sentence of the document, whose words then stand ahead of each complaint. */
    static void sentence(String words, Call test) {
        sentence = "\"" + words + "\": ";
        int before = checked;
        try {
            test.run();
            same("answers were checked", checked > before, true);
        } catch (RuntimeException e) {
            complain("a call throws", thrown(e), "an answer");
        }
        sentence = "";
    }

    static void same(String what, long got, long due) {
        checked++;
        if (got != due) {
            complain(what, String.valueOf(got), String.valueOf(due));
        }
    }

    static void same(String what, double got, double due) {
        checked++;
        if (Double.compare(got, due) != 0) {
            complain(what, String.valueOf(got), String.valueOf(due));
        }
    }

    static void same(String what, boolean got, boolean due) {
        checked++;
        if (got != due) {
            complain(what, String.valueOf(got), String.valueOf(due));
        }
    }

    static void same(String what, String got, String due) {
        checked++;
        if (!got.equals(due)) {
            complain(what, got, due);
        }
    }

    /** What a call throws, and whether a throw of PilotBook's own threw it rather than the Java machine or library. */
    static String thrown(RuntimeException e) {
        StackTraceElement[] trace = e.getStackTrace();
        boolean isOwn = trace.length > 0 && trace[0].getClassName().matches("(Pilot|Literal)Book.*");
        return e.getClass().getName() + (isOwn ? "" : " of the machine");
    }

    /** The call must throw exactly this exception by itself, and leave the digest as it was. */
    static void refuses(PilotBook book, Class<? extends RuntimeException> due, String what, Call call) {
        long before = book.digest();
        String got = "nothing";
        try {
            call.run();
        } catch (RuntimeException e) {
            got = thrown(e);
        }
        same(what + " throws", got, due.getName());
        same("digest behind " + what, book.digest(), before);
    }

    static void noIndex(PilotBook book, String what, Call call) {
        refuses(book, IndexOutOfBoundsException.class, what, call);
    }

    static void noArgument(PilotBook book, String what, Call call) {
        refuses(book, IllegalArgumentException.class, what, call);
    }

    static void noState(PilotBook book, String what, Call call) {
        refuses(book, IllegalStateException.class, what, call);
    }

    static void end() {
        System.out.println(checked + " answers checked, " + wrong + " wrong");
        if (wrong != 0) {
            System.exit(1);
        }
    }

    private static void complain(String what, String got, String due) {
        wrong++;
        if (wrong <= 50) {
            System.out.println(sentence + what + ": got " + got + ", due is " + due);
        }
    }
}
