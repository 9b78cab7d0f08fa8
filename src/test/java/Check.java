/** What the tests have in common: compare, expect an exception, end with 1 if something was wrong. */
final class Check {
    private static int wrong = 0;
    private static int made = 0;

    private Check() {
    }

    /** A call that may throw. */
    interface Act {
        void run();
    }

    static void due(String what, long got, long want) {
        made++;
        if (got != want) {
            fail(what + " answered " + got + ", due is " + want);
        }
    }

    static void due(String what, boolean got, boolean want) {
        due(what, got ? 1 : 0, want ? 1 : 0);
    }

    /** The letter has these numbers, to whom it goes being the first, and no more. */
    static void dueLetter(String what, LogServer server, int k, int... want) {
        for (int i = 0; i < want.length; i++) {
            due(what + ": number " + i + " of letter " + k, server.letter(k, i), want[i]);
        }
        outOfBounds(what + ": letter " + k + " has no more numbers", () -> server.letter(k, want.length));
    }

    static void dueEntry(String what, LogServer server, int number, int term, int kind, int value) {
        due(what + ": term of entry " + number, server.log(number, 0), term);
        due(what + ": kind of entry " + number, server.log(number, 1), kind);
        due(what + ": value of entry " + number, server.log(number, 2), value);
    }

    static void outOfBounds(String what, Act act) {
        throwsIt(what, IndexOutOfBoundsException.class, act);
    }

    static void illegal(String what, Act act) {
        throwsIt(what, IllegalArgumentException.class, act);
    }

    static void illegalState(String what, Act act) {
        throwsIt(what, IllegalStateException.class, act);
    }

    private static void throwsIt(String what, Class<? extends RuntimeException> want, Act act) {
        made++;
        try {
            act.run();
        } catch (RuntimeException e) {
            // The very class: what the machine throws at a wrong index is a class below.
            if (e.getClass() != want) {
                fail(what + " threw " + e.getClass().getName() + ", due is " + want.getName());
            }
            return;
        }
        fail(what + " threw nothing, due is " + want.getName());
    }

    static void fail(String text) {
        wrong++;
        if (wrong <= 50) {
            System.out.println("wrong: " + text);
        }
    }

    static boolean failed() {
        return wrong != 0;
    }

    static void end(String test) {
        System.out.println(test + ": " + made + " checks, " + wrong + " wrong");
        if (wrong != 0) {
            System.exit(1);
        }
    }
}
