/** Counts the calls whose answer is not the one that is due, and prints them. */
final class Checks {
    /** A call that is checked; a boolean answer counts 1 or 0. */
    interface Call {
        long run();
    }

    static final Class<? extends RuntimeException> INDEX = IndexOutOfBoundsException.class;
    static final Class<? extends RuntimeException> ARGUMENT = IllegalArgumentException.class;
    static final Class<? extends RuntimeException> STATE = IllegalStateException.class;

    private final String title;
    private int checked;
    private int failed;

    Checks(String title) {
        this.title = title;
    }

    void is(String what, long due, long got) {
        checked++;
        if (got != due) {
            fail(what + " answered " + got + ", due is " + due);
        }
    }

    void isTrue(String what, boolean got) {
        is(what, 1, got ? 1 : 0);
    }

    void isDouble(String what, double due, double got) {
        checked++;
        if (!(got == due)) {
            fail(what + " answered " + got + ", due is " + due);
        }
    }

    /** The call throws exactly this exception and leaves the digest of the city as it was. */
    void refuses(String what, Class<? extends RuntimeException> due, Wallcode city, Call call) {
        checked++;
        long before = city.digest();
        try {
            long got = call.run();
            fail(what + " answered " + got + ", due is " + due.getSimpleName());
        } catch (RuntimeException e) {
            if (e.getClass() != due) {
                fail(what + " threw " + e + ", due is " + due.getSimpleName());
            }
        }
        if (city.digest() != before) {
            fail(what + " was refused and changed the city");
        }
    }

    void fail(String text) {
        failed++;
        System.out.println(title + ": " + text);
    }

    void end() {
        System.out.println(title + ": " + checked + " checks, " + failed + " failed");
        if (failed > 0) {
            System.exit(1);
        }
    }
}
