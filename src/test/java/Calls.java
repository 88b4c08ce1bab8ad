import java.util.Arrays;

/** The calls of the face by number, on the program and on the plain city; a boolean counts 1 or 0. */
final class Calls {
    static final int WALL = 0;
    static final int HAND = 1;
    static final int PERMIT = 2;
    static final int WATCH = 3;
    static final int PAINT = 4;
    static final int BUFF = 5;
    static final int CLEAR = 6;
    static final int SELL = 7;
    static final int WAIVE = 8;
    static final int REMEMBER = 9;
    static final int PAY = 10;
    static final int PASS = 11;
    static final int OF_WALL = 12;
    static final int SHOWS = 13;
    static final int OF_HAND = 14;
    static final int OF_LAYER = 15;
    static final int WRONGS = 16;
    static final int LIKENESS = 17;
    static final int MANY = 18;
    static final int MEAN_FAME = 19;
    static final int BEST_FROM = 20;
    static final int WOULD_WRONG = 21;
    static final int NEXT_BUFF = 22;
    static final int WOULD_FAME = 23;
    static final int DIGEST = 24;

    private static final String[] NAMES = {
        "wall", "hand", "permit", "watch", "paint", "buff", "clear", "sell", "waive", "remember", "pay",
        "pass", "ofWall", "shows", "ofHand", "ofLayer", "wrongs", "likeness", "many", "meanFame",
        "bestFrom", "wouldWrong", "nextBuff", "wouldFame", "digest",
    };

    private Calls() {
    }

    static String text(int call, int... a) {
        String arguments = Arrays.toString(a);
        return NAMES[call] + "(" + arguments.substring(1, arguments.length() - 1) + ")";
    }

    /** What the program answers; throws. and the exception's name, if it throws one. */
    static String answer(Wallcode city, int call, int... a) {
        try {
            return call <= PASS ? done(city, call, a) : asked(city, call, a);
        } catch (RuntimeException e) {
            String who = Checks.isThrownByTheProgram(e) ? "throws." : "the machine throws.";
            return who + e.getClass().getSimpleName();
        }
    }

    /** What the plain city answers, in the same form. */
    static String due(PlainCity plain, int call, int... a) {
        try {
            return call <= PASS ? dueDone(plain, call, a) : dueAsked(plain, call, a);
        } catch (PlainCity.Refused e) {
            return "throws." + e.getMessage();
        }
    }

    private static String done(Wallcode city, int call, int[] a) {
        switch (call) {
            case WALL:
                return "" + city.wall(a[0], a[1], a[2], a[3]);
            case HAND:
                return "" + city.hand(a[0], a[1], a[2], a[3]);
            case PERMIT:
                return "" + city.permit(a[0], a[1], a[2]);
            case WATCH:
                return "" + city.watch(a[0], a[1], a[2]);
            case PAINT:
                return "" + city.paint(a[0], a[1], a[2], a[3], a[4], a[5]);
            case BUFF:
                return "" + city.buff(a[0]);
            case CLEAR:
                return "" + city.clear(a[0]);
            case SELL:
                return "" + city.sell(a[0]);
            case WAIVE:
                return "" + (city.waive(a[0]) ? 1 : 0);
            case REMEMBER:
                return "" + (city.remember(a[0]) ? 1 : 0);
            case PAY:
                return "" + city.pay(a[0]);
            default:
                return "" + city.pass(a[0]);
        }
    }

    private static String asked(Wallcode city, int call, int[] a) {
        switch (call) {
            case OF_WALL:
                return "" + city.ofWall(a[0], a[1]);
            case SHOWS:
                return "" + city.shows(a[0], a[1]);
            case OF_HAND:
                return "" + city.ofHand(a[0], a[1]);
            case OF_LAYER:
                return "" + city.ofLayer(a[0], a[1]);
            case WRONGS:
                return "" + city.wrongs(a[0], a[1]);
            case LIKENESS:
                return "" + city.likeness(a[0], a[1]);
            case MANY:
                return "" + city.many(a[0]);
            case MEAN_FAME:
                return "" + city.meanFame();
            case BEST_FROM:
                return "" + city.bestFrom(a[0], a[1], a[2], a[3]);
            case WOULD_WRONG:
                return "" + city.wouldWrong(a[0], a[1], a[2], a[3], a[4]);
            case NEXT_BUFF:
                return "" + city.nextBuff();
            case WOULD_FAME:
                return "" + city.wouldFame(a[0], a[1]);
            default:
                return "" + city.digest();
        }
    }

    private static String dueDone(PlainCity plain, int call, int[] a) {
        switch (call) {
            case WALL:
                return "" + plain.wall(a[0], a[1], a[2], a[3]);
            case HAND:
                return "" + plain.hand(a[0], a[1], a[2], a[3]);
            case PERMIT:
                return "" + plain.permit(a[0], a[1], a[2]);
            case WATCH:
                return "" + plain.watch(a[0], a[1], a[2]);
            case PAINT:
                return "" + plain.paint(a[0], a[1], a[2], a[3], a[4], a[5]);
            case BUFF:
                return "" + plain.buff(a[0]);
            case CLEAR:
                return "" + plain.clear(a[0]);
            case SELL:
                return "" + plain.sell(a[0]);
            case WAIVE:
                return "" + plain.waive(a[0]);
            case REMEMBER:
                return "" + plain.remember(a[0]);
            case PAY:
                return "" + plain.pay(a[0]);
            default:
                return "" + plain.pass(a[0]);
        }
    }

    private static String dueAsked(PlainCity plain, int call, int[] a) {
        switch (call) {
            case OF_WALL:
                return "" + plain.ofWall(a[0], a[1]);
            case SHOWS:
                return "" + plain.shows(a[0], a[1]);
            case OF_HAND:
                return "" + plain.ofHand(a[0], a[1]);
            case OF_LAYER:
                return "" + plain.ofLayer(a[0], a[1]);
            case WRONGS:
                return "" + plain.wrongs(a[0], a[1]);
            case LIKENESS:
                return "" + plain.likeness(a[0], a[1]);
            case MANY:
                return "" + plain.many(a[0]);
            case MEAN_FAME:
                return "" + plain.meanFame();
            case BEST_FROM:
                return "" + plain.bestFrom(a[0], a[1], a[2], a[3]);
            case WOULD_WRONG:
                return "" + plain.wouldWrong(a[0], a[1], a[2], a[3], a[4]);
            case NEXT_BUFF:
                return "" + plain.nextBuff();
            case WOULD_FAME:
                return "" + plain.wouldFame(a[0], a[1]);
            default:
                return "" + plain.digest();
        }
    }
}
