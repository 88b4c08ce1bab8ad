import java.util.function.IntToLongFunction;
import java.util.function.Supplier;

/** Counts the calls whose answer is not the one that is due, and prints them. */
final class Checks {
    /** A call that is checked; a boolean answer counts 1 or 0. */
    interface Call {
        long run();
    }

    /** A call with one argument that is looked at. */
    interface CallWith {
        long run(Wallcode city, int value);
    }

    static final Class<? extends RuntimeException> INDEX = IndexOutOfBoundsException.class;
    static final Class<? extends RuntimeException> ARGUMENT = IllegalArgumentException.class;
    static final Class<? extends RuntimeException> STATE = IllegalStateException.class;

    /** A fault at the root of many checks need not be printed for each of them. */
    private static final int MOST_PRINTED = 50;

    private final String title;
    private final Document document;
    private String about = "";
    private int checked;
    private int failed;

    Checks(String title) {
        this(title, null);
    }

    Checks(String title, Document document) {
        this.title = title;
        this.document = document;
    }

    /** What is checked from here on stands for these words of the document, for this promise. */
    void stands(int promise, String words) {
        about = "promise " + promise + ", \"" + words + "\": ";
        checked++;
        if (document != null && document.isThere() && !document.quote(promise, words)) {
            fail("the document does not say so");
        }
    }

    void is(String what, long due, long got) {
        checked++;
        if (got != due) {
            fail(what + " answered " + got + ", due is " + due);
        }
    }

    void isTrue(String what, boolean got) {
        is(what, 1, got ? 1 : 0);
    }

    void isText(String what, String due, String got) {
        checked++;
        if (!due.equals(got)) {
            fail(what + " answered " + got + ", due is " + due);
        }
    }

    void isDouble(String what, double due, double got) {
        checked++;
        if (!(got == due)) {
            fail(what + " answered " + got + ", due is " + due);
        }
    }

    /** Whether the program threw it by a statement of its own, not the machine or the library in it. */
    static boolean isThrownByTheProgram(RuntimeException e) {
        StackTraceElement[] trace = e.getStackTrace();
        return trace.length > 0 && trace[0].getClassName().split("\\$")[0].equals("Wallcode");
    }

    /** The call throws exactly this exception and leaves the digest of the city as it was. */
    void refuses(String what, Class<? extends RuntimeException> due, Wallcode city, Call call) {
        checked++;
        long before = city.digest();
        try {
            long got = call.run();
            fail(what + " answered " + got + ", due is " + due.getSimpleName());
        } catch (RuntimeException e) {
            if (e.getClass() != due || !isThrownByTheProgram(e)) {
                fail(what + " threw " + e + ", due is the program's own " + due.getSimpleName());
            }
        }
        if (city.digest() != before) {
            fail(what + " was refused and changed the city");
        }
    }

    /**
     * On a city made anew for each, the call answers so with the ints from least to most, and refuses the
     * others so; the sign # in its text stands for the int.
     */
    void ranges(String text, int least, int most, Supplier<Wallcode> maker, CallWith call,
            IntToLongFunction due, Class<? extends RuntimeException> otherwise) {
        for (int value : Ends.around(least, most)) {
            Wallcode city = maker.get();
            String what = text.replace("#", "" + value);
            if (Ends.isWithin(value, least, most)) {
                is(what, due.applyAsLong(value), call.run(city, value));
            } else {
                refuses(what, otherwise, city, () -> call.run(city, value));
            }
        }
    }

    void fail(String text) {
        failed++;
        if (failed <= MOST_PRINTED) {
            System.out.println(title + ": " + about + text);
        }
    }

    void end() {
        System.out.println(title + ": " + checked + " checks, " + failed + " failed");
        if (failed > 0) {
            System.exit(1);
        }
    }
}
