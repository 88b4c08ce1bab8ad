import java.util.Arrays;

/**
 * Long runs of calls with good, bordering and wild arguments: each answer and each exception is that
 * of the plain city, and what is refused changes nothing. The numbers are always the same ones.
 */
public final class WildCallsTest {
    private static final int RUNS = 100;
    private static final int CALLS = 512;
    private static final String[] NAMES = {
        "wall", "hand", "permit", "watch", "paint", "buff", "clear", "sell", "waive", "remember", "pay",
        "pass", "ofWall", "shows", "ofHand", "ofLayer", "wrongs", "likeness", "many", "meanFame",
        "bestFrom", "wouldWrong", "nextBuff", "wouldFame", "digest",
    };
    /** How often each of these calls is taken; painting most of all. */
    private static final int[] SHARES = {
        3, 4, 5, 4, 40, 4, 2, 4, 2, 3, 2, 6, 6, 4, 8, 10, 4, 3, 8, 2, 6, 6, 3, 4, 1,
    };
    private static final int[] WILD = {
        Integer.MIN_VALUE, Integer.MIN_VALUE + 1, -1000, -3, -2, -1, 17, 61, 360, 401, 1000,
        Integer.MAX_VALUE - 1, Integer.MAX_VALUE,
    };

    private long seed;
    private int wildPercent;

    private WildCallsTest(long seed, int wildPercent) {
        this.seed = seed;
        this.wildPercent = wildPercent;
    }

    public static void main(String[] args) {
        Checks checks = new Checks("WildCallsTest");
        for (int run = 0; run < RUNS; run++) {
            new WildCallsTest(run * 7919L + 1, run % 4 == 0 ? 20 : 2).run(checks, run);
        }
        checks.end();
    }

    private int below(int bound) {
        seed = seed * 6364136223846793005L + 1442695040888963407L;
        return (int) ((seed >>> 33) % bound);
    }

    /** Mostly a number from the least to the greatest one, sometimes one at their border, or a wild one. */
    private int number(int least, int greatest) {
        int dice = below(100);
        if (dice < wildPercent) {
            return WILD[below(WILD.length)];
        }
        if (dice < 2 * wildPercent) {
            return below(2) == 0 ? least - 1 : greatest + 1;
        }
        return greatest < least ? least : least + below(greatest - least + 1);
    }

    private int call() {
        int all = 0;
        for (int share : SHARES) {
            all += share;
        }
        int dice = below(all);
        int call = 0;
        while (dice >= SHARES[call]) {
            dice -= SHARES[call];
            call++;
        }
        return call;
    }

    private void run(Checks checks, int run) {
        Wallcode city = new Wallcode();
        PlainCity plain = new PlainCity();
        for (int i = 0; i < CALLS; i++) {
            int call = i < 6 ? i % 2 : call();
            int[] a = arguments(call, plain);
            long before = city.digest();
            String due = dueAnswer(plain, city, call, a);
            String got = answer(city, call, a);
            String text = "run " + run + ", call " + i + ": " + NAMES[call] + Arrays.toString(a);
            checks.isTrue(text + " answered " + got + ", due is " + due, due.equals(got));
            boolean mayChange = call <= 11 && !got.startsWith("throws.");
            checks.isTrue(text + " changed the city", mayChange || before == city.digest());
            if (!due.equals(got)) {
                return;
            }
        }
        checks.is("run " + run + ": the digest", Digests.of(city), city.digest());
        compareAll(checks, city, plain, run);
    }

    private int[] arguments(int call, PlainCity plain) {
        int wall = number(0, plain.many(1) - 1);
        int hand = number(0, plain.many(2) - 1);
        int layer = number(0, plain.many(3) - 1);
        int width = 0 <= wall && wall < plain.many(1) ? plain.ofWall(wall, 0) : 8;
        int from = number(0, width - 1);
        int wide = number(1, Math.max(1, Math.min(width, below(3) == 0 ? width - Math.abs(from % 16) : 3)));
        int kind = number(0, 3);
        switch (call) {
            case 0:
                return new int[] {number(4, 16), number(1, 9), number(0, 3), below(2) * number(2, 20)};
            case 1:
                return new int[] {number(0, 3), number(1, 9), number(0, 9), number(0, 9)};
            case 2:
                return new int[] {wall, number(0, 3), number(plain.many(0), plain.many(0) + 8)};
            case 3:
                int start = number(0, 359);
                return new int[] {wall, start, number(start, 359)};
            case 4:
                return new int[] {hand, wall, from, wide, kind, number(-2, 2)};
            case 5:
            case 6:
                return new int[] {wall};
            case 7:
            case 8:
            case 9:
                return new int[] {layer};
            case 10:
                return new int[] {hand};
            case 11:
                return new int[] {below(8) == 0 ? number(1, 30) : number(1, 3)};
            case 12:
                return new int[] {wall, number(0, 6)};
            case 13:
                return new int[] {wall, from};
            case 14:
                return new int[] {hand, number(0, 10)};
            case 15:
                return new int[] {layer, number(0, 13)};
            case 16:
                return new int[] {hand, number(0, plain.many(2) - 1)};
            case 17:
                return new int[] {layer, number(0, plain.many(3) - 1)};
            case 18:
                return new int[] {number(0, 11)};
            case 20:
                return new int[] {hand, wall, number(1, 16), kind};
            case 21:
                return new int[] {hand, wall, from, wide, kind};
            case 23:
                return new int[] {hand, number(0, 30)};
            default:
                return new int[] {};
        }
    }

    private static String answer(Wallcode city, int call, int[] a) {
        try {
            return call < 12 ? done(city, call, a) : asked(city, call, a);
        } catch (RuntimeException e) {
            return "throws." + e.getClass().getSimpleName();
        }
    }

    private static String done(Wallcode city, int call, int[] a) {
        switch (call) {
            case 0:
                return "" + city.wall(a[0], a[1], a[2], a[3]);
            case 1:
                return "" + city.hand(a[0], a[1], a[2], a[3]);
            case 2:
                return "" + city.permit(a[0], a[1], a[2]);
            case 3:
                return "" + city.watch(a[0], a[1], a[2]);
            case 4:
                return "" + city.paint(a[0], a[1], a[2], a[3], a[4], a[5]);
            case 5:
                return "" + city.buff(a[0]);
            case 6:
                return "" + city.clear(a[0]);
            case 7:
                return "" + city.sell(a[0]);
            case 8:
                return "" + (city.waive(a[0]) ? 1 : 0);
            case 9:
                return "" + (city.remember(a[0]) ? 1 : 0);
            case 10:
                return "" + city.pay(a[0]);
            default:
                return "" + city.pass(a[0]);
        }
    }

    private static String asked(Wallcode city, int call, int[] a) {
        switch (call) {
            case 12:
                return "" + city.ofWall(a[0], a[1]);
            case 13:
                return "" + city.shows(a[0], a[1]);
            case 14:
                return "" + city.ofHand(a[0], a[1]);
            case 15:
                return "" + city.ofLayer(a[0], a[1]);
            case 16:
                return "" + city.wrongs(a[0], a[1]);
            case 17:
                return "" + city.likeness(a[0], a[1]);
            case 18:
                return "" + city.many(a[0]);
            case 19:
                return "" + city.meanFame();
            case 20:
                return "" + city.bestFrom(a[0], a[1], a[2], a[3]);
            case 21:
                return "" + city.wouldWrong(a[0], a[1], a[2], a[3], a[4]);
            case 22:
                return "" + city.nextBuff();
            case 23:
                return "" + city.wouldFame(a[0], a[1]);
            default:
                return "" + city.digest();
        }
    }

    private static String dueAnswer(PlainCity plain, Wallcode city, int call, int[] a) {
        try {
            return call < 12 ? dueDone(plain, call, a) : dueAsked(plain, city, call, a);
        } catch (PlainCity.Refused e) {
            return "throws." + e.getMessage();
        }
    }

    private static String dueDone(PlainCity plain, int call, int[] a) {
        switch (call) {
            case 0:
                return "" + plain.wall(a[0], a[1], a[2], a[3]);
            case 1:
                return "" + plain.hand(a[0], a[1], a[2], a[3]);
            case 2:
                return "" + plain.permit(a[0], a[1], a[2]);
            case 3:
                return "" + plain.watch(a[0], a[1], a[2]);
            case 4:
                return "" + plain.paint(a[0], a[1], a[2], a[3], a[4], a[5]);
            case 5:
                return "" + plain.buff(a[0]);
            case 6:
                return "" + plain.clear(a[0]);
            case 7:
                return "" + plain.sell(a[0]);
            case 8:
                return "" + plain.waive(a[0]);
            case 9:
                return "" + plain.remember(a[0]);
            case 10:
                return "" + plain.pay(a[0]);
            default:
                return "" + plain.pass(a[0]);
        }
    }

    private static String dueAsked(PlainCity plain, Wallcode city, int call, int[] a) {
        switch (call) {
            case 12:
                return "" + plain.ofWall(a[0], a[1]);
            case 13:
                return "" + plain.shows(a[0], a[1]);
            case 14:
                return "" + plain.ofHand(a[0], a[1]);
            case 15:
                return "" + plain.ofLayer(a[0], a[1]);
            case 16:
                return "" + plain.wrongs(a[0], a[1]);
            case 17:
                return "" + plain.likeness(a[0], a[1]);
            case 18:
                return "" + plain.many(a[0]);
            case 19:
                return "" + plain.meanFame();
            case 20:
                return "" + plain.bestFrom(a[0], a[1], a[2], a[3]);
            case 21:
                return "" + plain.wouldWrong(a[0], a[1], a[2], a[3], a[4]);
            case 22:
                return "" + plain.nextBuff();
            case 23:
                return "" + plain.wouldFame(a[0], a[1]);
            default:
                return "" + Digests.of(city);
        }
    }

    private static void compareAll(Checks checks, Wallcode city, PlainCity plain, int run) {
        String text = "run " + run + ", at its end: ";
        for (int what = 0; what <= 11; what++) {
            checks.is(text + "many(" + what + ")", plain.many(what), city.many(what));
        }
        for (int wall = 0; wall < plain.many(1); wall++) {
            for (int what = 0; what <= 6; what++) {
                checks.is(text + "ofWall(" + wall + ", " + what + ")", plain.ofWall(wall, what),
                    city.ofWall(wall, what));
            }
        }
        for (int hand = 0; hand < plain.many(2); hand++) {
            for (int what = 0; what <= 10; what++) {
                checks.is(text + "ofHand(" + hand + ", " + what + ")", plain.ofHand(hand, what),
                    city.ofHand(hand, what));
            }
        }
        for (int layer = 0; layer < plain.many(3); layer++) {
            for (int what = 0; what <= 13; what++) {
                checks.is(text + "ofLayer(" + layer + ", " + what + ")", plain.ofLayer(layer, what),
                    city.ofLayer(layer, what));
            }
        }
    }
}
