/** Compares what calls answer with what is due, and tells in the end whether all was. */
final class Check {
    /** A call that is tried. A boolean answer is given as 1 or 0. */
    interface Call {
        long answer();
    }

    private static int calls = 0;
    private static int wrong = 0;
    private static String about = "";

    private Check() {
    }

    /** What the checks from now on are about: told with each fault. */
    static void about(String heading) {
        about = heading + ": ";
    }

    static void due(String what, long want, long got) {
        calls++;
        if (got != want) {
            tell(what + " answered " + got + ", due is " + want);
        }
    }

    static void due(String what, boolean want, boolean got) {
        due(what, want ? 1 : 0, got ? 1 : 0);
    }

    static void dueDouble(String what, double want, double got) {
        calls++;
        if (got != want) {
            tell(what + " answered " + got + ", due is " + want);
        }
    }

    static void dueText(String what, String want, String got) {
        calls++;
        if (!want.equals(got)) {
            tell(what + " is " + got + ", due is " + want);
        }
    }

    /** The call throws exactly this exception, and what the song answers stays. */
    static void refused(String what, Class<? extends RuntimeException> want, MapSongs song, Call call) {
        long before = song.digest();
        dueText(what, "throws " + want.getName(), outcome(call));
        due(what + ", digest() behind it", before, song.digest());
    }

    /** The answer of a call as a text, or the exception that it throws. */
    static String outcome(Call call) {
        try {
            return "answers " + call.answer();
        } catch (RuntimeException e) {
            return "throws " + e.getClass().getName();
        }
    }

    static void tell(String fault) {
        wrong++;
        if (wrong <= 50) {
            System.out.println(about + fault);
        }
    }

    /** The last call of each test's main. */
    static void end(String test) {
        System.out.println(test + ": " + calls + " checks, " + wrong + " wrong");
        if (wrong != 0 || calls == 0) {
            System.exit(1);
        }
    }
}
