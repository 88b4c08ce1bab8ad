import java.util.ArrayList;
import java.util.List;

/**
 * Which exception comes first, and that nothing was changed: each call with each of its arguments good, just
 * out of its range on both sides, and far outside, in all their combinations, in cities from nothing to all.
 */
final class RefusedBounds {
    /** So many refused calls, each between two digests, are asked of one city. */
    private static final int CALLS_A_CITY = 100;

    private final Checks checks;
    private int refused;

    RefusedBounds(Checks checks) {
        this.checks = checks;
    }

    void run() {
        Script[] scripts = {Script.empty(), Script.onlyWalls(), Script.onlyHands(), Script.ordinary(),
            Script.spent(), Script.full()};
        for (Script script : scripts) {
            for (int call = Calls.WALL; call <= Calls.WOULD_FAME; call++) {
                checks.stands(promiseOf(call), "If several exceptions apply, the one that is named first is thrown.");
                inEveryOrder(script, call);
                checks.stands(promiseOf(call), "A method that throws an exception changes nothing.");
                laterAnswers(script, call);
            }
        }
        checks.isTrue("refused calls: " + refused, refused > 20000);
    }

    /** The promises follow in the order of the calls, behind that of the constructor. */
    private static int promiseOf(int call) {
        return call + 2;
    }

    // ---- which exception comes first

    private void inEveryOrder(Script script, int call) {
        PlainCity plain = script.plain();
        int[][] choices = choices(call, plain);
        int[] arguments = new int[choices.length];
        Wallcode city = script.city();
        int asked = 0;
        for (int number = 0; number < combinations(choices); number++) {
            int rest = number;
            for (int at = 0; at < choices.length; at++) {
                arguments[at] = choices[at][rest % choices[at].length];
                rest /= choices[at].length;
            }
            String due = Calls.due(plain, call, arguments);
            if (!due.startsWith("throws.")) {
                // It was good, and the plain city has done it: both go on from the script's end.
                plain = script.plain();
            } else {
                refuse(script, city, call, arguments, due);
                asked++;
            }
            if (asked == CALLS_A_CITY) {
                city = script.city();
                asked = 0;
            }
        }
    }

    private void refuse(Script script, Wallcode city, int call, int[] arguments, String due) {
        refused++;
        String text = script.title + ": " + Calls.text(call, arguments);
        long before = city.digest();
        checks.isText(text, due, Calls.answer(city, call, arguments));
        checks.is(text + ", the digest behind it", before, city.digest());
    }

    private static int combinations(int[][] choices) {
        int product = 1;
        for (int[] choice : choices) {
            product *= choice.length;
        }
        return choices.length == 0 ? 0 : product;
    }

    private static int[] choice(int least, int most) {
        return new int[] {least, most, least - 1, most + 1, Ends.MIN, Ends.MAX};
    }

    private static int[] few(int good, int least, int most) {
        return new int[] {good, least - 1, most + 1, Ends.MAX};
    }

    private static int[][] choices(int call, PlainCity plain) {
        int[] wall = choice(0, plain.many(1) - 1);
        int[] hand = choice(0, plain.many(2) - 1);
        int[] layer = choice(0, plain.many(3) - 1);
        int night = plain.many(0);
        switch (call) {
            case Calls.WALL:
                return new int[][] {few(4, 4, 16), few(9, 1, 9), few(3, 0, 3), {0, 20, -1, 1, 21, Ends.MIN, Ends.MAX}};
            case Calls.HAND:
                return new int[][] {few(0, 0, 3), few(1, 1, 9), few(9, 0, 9), few(9, 0, 9)};
            case Calls.PERMIT:
                return new int[][] {wall, choice(0, 3), choice(night, 400)};
            case Calls.WATCH:
                return new int[][] {wall, {0, 5, 359, -1, 360, Ends.MIN, Ends.MAX},
                    {0, 4, 5, 359, -1, 360, Ends.MIN, Ends.MAX}};
            case Calls.PAINT:
                return new int[][] {few(0, 0, plain.many(2) - 1), few(0, 0, plain.many(1) - 1),
                    {0, -1, 16, Ends.MIN, Ends.MAX}, {1, 4, 0, 17, Ends.MIN, Ends.MAX}, few(3, 0, 3), few(2, -2, 2)};
            case Calls.BUFF:
            case Calls.CLEAR:
                return new int[][] {wall};
            case Calls.SELL:
            case Calls.WAIVE:
            case Calls.REMEMBER:
                return new int[][] {layer};
            case Calls.PAY:
                return new int[][] {hand};
            case Calls.PASS:
                return new int[][] {choice(1, 30)};
            case Calls.OF_WALL:
                return new int[][] {wall, choice(0, 6)};
            case Calls.SHOWS:
                return new int[][] {wall, {0, 3, -1, 16, Ends.MIN, Ends.MAX}};
            case Calls.OF_HAND:
                return new int[][] {hand, choice(0, 10)};
            case Calls.OF_LAYER:
                return new int[][] {layer, choice(0, 13)};
            case Calls.WRONGS:
                return new int[][] {hand, hand};
            case Calls.LIKENESS:
                return new int[][] {layer, layer};
            case Calls.MANY:
                return new int[][] {choice(0, 11)};
            case Calls.BEST_FROM:
                return new int[][] {hand, wall, choice(1, 16), choice(0, 3)};
            case Calls.WOULD_WRONG:
                return new int[][] {few(0, 0, plain.many(2) - 1), few(0, 0, plain.many(1) - 1),
                    {0, -1, 16, Ends.MIN, Ends.MAX}, {1, 4, 0, 17, Ends.MIN, Ends.MAX}, few(3, 0, 3)};
            case Calls.WOULD_FAME:
                return new int[][] {hand, choice(0, 30)};
            default:
                return new int[][] {};
        }
    }

    // ---- that nothing was changed, whatever is called behind it

    private void laterAnswers(Script script, int call) {
        List<String> due = later(script.city());
        int[][] choices = choices(call, script.plain());
        for (int at = 0; at < choices.length; at++) {
            for (int value : choices[at]) {
                int[] arguments = new int[choices.length];
                for (int other = 0; other < choices.length; other++) {
                    arguments[other] = other == at ? value : choices[other][0];
                }
                if (Calls.due(script.plain(), call, arguments).startsWith("throws.")) {
                    Wallcode city = script.city();
                    String got = Calls.answer(city, call, arguments);
                    checks.isText(script.title + ", behind " + Calls.text(call, arguments) + ", " + got,
                        due.toString(), later(city).toString());
                }
            }
        }
    }

    /** Answers that show the state that no question tells: WATCHES, last NIGHTS of PERMITS, CLEANINGS. */
    private static List<String> later(Wallcode city) {
        List<String> answers = new ArrayList<>();
        for (int minute = 0; minute < 10; minute++) {
            for (int wall = 0; wall < 3; wall++) {
                answers.add(Calls.answer(city, Calls.PAINT, 0, wall, 0, 1, 0, 0));
                answers.add(Calls.answer(city, Calls.OF_HAND, 0, 10));
            }
        }
        answers.add(Calls.answer(city, Calls.DIGEST));
        for (int night = 0; night < 9; night++) {
            answers.add(Calls.answer(city, Calls.PASS, night < 4 ? 1 : 5));
            for (int wall = 0; wall < 6; wall++) {
                answers.add(Calls.answer(city, Calls.OF_WALL, wall, 3));
                answers.add(Calls.answer(city, Calls.OF_WALL, wall, 4));
            }
        }
        for (int wall = 0; wall < 6; wall++) {
            answers.add(Calls.answer(city, Calls.BUFF, wall));
            answers.add(Calls.answer(city, Calls.CLEAR, wall));
            answers.add(Calls.answer(city, Calls.PERMIT, wall, 0, 400));
        }
        answers.add(Calls.answer(city, Calls.WALL, 4, 1, 0, 0));
        answers.add(Calls.answer(city, Calls.HAND, 0, 1, 0, 0));
        answers.add(Calls.answer(city, Calls.DIGEST));
        return answers;
    }
}
