/**
 * Runs of 512 calls with good, bordering and wild arguments: each answer and each exception is that of
 * the plain city. The numbers are always the same ones.
 */
public final class WildCallsTest {
    private static final int RUNS = 100;
    private static final int CALLS = 512;
    /** How often each of these calls is taken; painting most of all. */
    private static final int[] SHARES = {
        3, 4, 5, 4, 40, 4, 2, 4, 2, 3, 2, 6, 6, 4, 8, 10, 4, 3, 8, 2, 6, 6, 3, 4, 4,
    };
    private static final int[] WILD = {
        Integer.MIN_VALUE, Integer.MIN_VALUE + 1, -1000, -3, -2, -1, 17, 61, 360, 401, 1000,
        Integer.MAX_VALUE - 1, Integer.MAX_VALUE,
    };

    private long seed;
    private int wildPercent;

    private WildCallsTest(long seed, int wildPercent) {
        this.seed = seed;
        this.wildPercent = wildPercent;
    }

    public static void main(String[] args) {
        Checks checks = new Checks("WildCallsTest");
        for (int run = 0; run < RUNS; run++) {
            new WildCallsTest(run * 7919L + 1, run % 4 == 0 ? 20 : 2).run(checks, run);
        }
        checks.end();
    }

    private int below(int bound) {
        seed = seed * 6364136223846793005L + 1442695040888963407L;
        return (int) ((seed >>> 33) % bound);
    }

    /** Mostly a number from the least to the greatest one, sometimes one at their border, or a wild one. */
    private int number(int least, int greatest) {
        int dice = below(100);
        if (dice < wildPercent) {
            return WILD[below(WILD.length)];
        }
        if (dice < 2 * wildPercent) {
            return below(2) == 0 ? least - 1 : greatest + 1;
        }
        return greatest < least ? least : least + below(greatest - least + 1);
    }

    private int call() {
        int all = 0;
        for (int share : SHARES) {
            all += share;
        }
        int dice = below(all);
        int call = 0;
        while (dice >= SHARES[call]) {
            dice -= SHARES[call];
            call++;
        }
        return call;
    }

    /** The last one of the calls is the digest: what the others changed wrongly shows there. */
    private void run(Checks checks, int run) {
        Wallcode city = new Wallcode();
        PlainCity plain = new PlainCity();
        for (int i = 0; i < CALLS; i++) {
            int call = i < 6 ? i % 2 : i == CALLS - 1 ? Calls.DIGEST : call();
            int[] a = arguments(call, plain);
            String due = Calls.due(plain, call, a);
            String got = Calls.answer(city, call, a);
            checks.isText("run " + run + ", call " + i + ": " + Calls.text(call, a), due, got);
            if (!due.equals(got)) {
                return;
            }
        }
    }

    private int[] arguments(int call, PlainCity plain) {
        int wall = number(0, plain.many(1) - 1);
        int hand = number(0, plain.many(2) - 1);
        int layer = number(0, plain.many(3) - 1);
        int width = 0 <= wall && wall < plain.many(1) ? plain.ofWall(wall, 0) : 8;
        int from = number(0, width - 1);
        int wide = number(1, Math.max(1, Math.min(width, below(3) == 0 ? width - Math.abs(from % 16) : 3)));
        int kind = number(0, 3);
        switch (call) {
            case Calls.WALL:
                return new int[] {number(4, 16), number(1, 9), number(0, 3), below(2) * number(2, 20)};
            case Calls.HAND:
                return new int[] {number(0, 3), number(1, 9), number(0, 9), number(0, 9)};
            case Calls.PERMIT:
                return new int[] {wall, number(0, 3), number(plain.many(0), plain.many(0) + 8)};
            case Calls.WATCH:
                int start = number(0, 359);
                return new int[] {wall, start, number(start, 359)};
            case Calls.PAINT:
                return new int[] {hand, wall, from, wide, kind, number(-2, 2)};
            case Calls.BUFF:
            case Calls.CLEAR:
                return new int[] {wall};
            case Calls.SELL:
            case Calls.WAIVE:
            case Calls.REMEMBER:
                return new int[] {layer};
            case Calls.PAY:
                return new int[] {hand};
            case Calls.PASS:
                return new int[] {below(8) == 0 ? number(1, 30) : number(1, 3)};
            case Calls.OF_WALL:
                return new int[] {wall, number(0, 6)};
            case Calls.SHOWS:
                return new int[] {wall, from};
            case Calls.OF_HAND:
                return new int[] {hand, number(0, 10)};
            case Calls.OF_LAYER:
                return new int[] {layer, number(0, 13)};
            case Calls.WRONGS:
                return new int[] {hand, number(0, plain.many(2) - 1)};
            case Calls.LIKENESS:
                return new int[] {layer, number(0, plain.many(3) - 1)};
            case Calls.MANY:
                return new int[] {number(0, 11)};
            case Calls.BEST_FROM:
                return new int[] {hand, wall, number(1, 16), kind};
            case Calls.WOULD_WRONG:
                return new int[] {hand, wall, from, wide, kind};
            case Calls.WOULD_FAME:
                return new int[] {hand, number(0, 30)};
            default:
                return new int[] {};
        }
    }
}
