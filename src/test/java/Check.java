/** Counts the answers that are due and prints those that did not come. */
final class Check {
    private static final int PRINTED_MOST = 40;
    private static int passed = 0;
    private static int failed = 0;

    interface Call {
        long answer();
    }

    private Check() {
    }

    static void due(String what, long got, long want) {
        if (got == want) {
            passed++;
        } else {
            fail(what + " answered " + got + ", due is " + want);
        }
    }

    static void due(String what, String got, String want) {
        if (got.equals(want)) {
            passed++;
        } else {
            fail(what + " answered " + got + ", due is " + want);
        }
    }

    private static void fail(String line) {
        failed++;
        if (failed <= PRINTED_MOST) {
            System.out.println(line);
        }
    }

    static void refused(String what, Call call, Class<? extends RuntimeException> want) {
        String came = "answer";
        try {
            came = came + " " + call.answer();
        } catch (RuntimeException e) {
            came = e.getClass().getSimpleName();
        }
        due(what, came, want.getSimpleName());
    }

    static void badArgument(String what, Call call) {
        refused(what, call, IllegalArgumentException.class);
    }

    static void badState(String what, Call call) {
        refused(what, call, IllegalStateException.class);
    }

    /** about(3) to about(8) in one go. */
    static void stands(String what, TermMachine x, int... want) {
        for (int i = 0; i < want.length; i++) {
            due(what + ": about(" + (3 + i) + ")", x.about(3 + i), want[i]);
        }
    }

    /** The whole result as a term, and nothing ahead of it or behind. */
    static void tells(String what, TermMachine x, int... want) {
        due(what + ": about(8)", x.about(8), want.length);
        for (int i = 0; i < want.length; i++) {
            due(what + ": told(" + i + ")", x.told(i), want[i]);
        }
        due(what + ": told(-1)", x.told(-1), TermMachine.NONE);
        due(what + ": told behind", x.told(want.length), TermMachine.NONE);
    }

    static void close(String name) {
        System.out.println(name + ": " + passed + " answers as due, " + failed + " not");
        if (failed > 0) {
            System.exit(1);
        }
    }
}
