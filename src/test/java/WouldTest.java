/** Promises 22 to 26: bestFrom, wouldWrong, nextBuff, wouldFame, digest. */
public final class WouldTest {
    private static final int MIN = Integer.MIN_VALUE;
    private static final int MAX = Integer.MAX_VALUE;
    private static final Checks CHECKS = new Checks("WouldTest");

    public static void main(String[] args) {
        bestFromDoesTheFewestWrongs();
        bestFromTakesTheGreatestFameThen();
        bestFromPutsMinutesAndLayersAside();
        bestFromRefusesWhatIsNotSo();
        wouldWrongIsWhatPaintDoes();
        wouldWrongPutsMinutesAside();
        wouldWrongRefusesWhatIsNotSo();
        nextBuffIsTheGreatestEyesore();
        nextBuffNeedsCoins();
        wouldFameLooksAhead();
        wouldFameGoesBeyondTheLastNight();
        wouldFameRefusesWhatIsNotSo();
        digestMixesAllOfIt();
        CHECKS.end();
    }

    private static Wallcode city() {
        Wallcode city = new Wallcode();
        city.wall(8, 2, 0, 0);
        city.wall(5, 3, 1, 0);
        city.hand(0, 9, 3, 6);
        city.hand(1, 9, 4, 5);
        city.hand(2, 9, 8, 2);
        return city;
    }

    private static void bestFromDoesTheFewestWrongs() {
        Wallcode city = city();
        CHECKS.is("a bare wall", 0, city.bestFrom(0, 0, 3, 1));
        city.paint(1, 0, 0, 1, 1, 0);
        city.paint(1, 0, 1, 1, 1, 0);
        city.paint(2, 0, 5, 1, 1, 0);
        CHECKS.is("two cells", 2, city.bestFrom(0, 0, 2, 1));
        CHECKS.is("three cells", 2, city.bestFrom(0, 0, 3, 1));
        CHECKS.is("four cells", 1, city.bestFrom(0, 0, 4, 1));
        CHECKS.is("eight cells", 0, city.bestFrom(0, 0, 8, 1));
        CHECKS.is("a greater kind does none", 0, city.bestFrom(0, 0, 2, 2));
        city.permit(0, 0, 0);
        CHECKS.is("nor does a legal one", 0, city.bestFrom(0, 0, 2, 1));
        city.remember(0);
        CHECKS.is("but to a memorial", 1, city.bestFrom(0, 0, 2, 1));
    }

    private static void bestFromTakesTheGreatestFameThen() {
        Wallcode city = city();
        city.paint(0, 0, 0, 2, 0, 0);
        CHECKS.is("not over its own", 2, city.bestFrom(0, 0, 2, 1));
        city.paint(0, 0, 2, 6, 3, 0);
        CHECKS.is("rather over tags than over burners", 0, city.bestFrom(0, 0, 2, 1));
        city.paint(1, 0, 3, 1, 0, 0);
        CHECKS.is("rather over those of others", 3, city.bestFrom(0, 0, 1, 1));
        CHECKS.is("though a wrong", 0, city.bestFrom(0, 0, 1, 0));
        city.paint(0, 0, 0, 8, 1, 0);
        city.paint(0, 0, 4, 2, 0, 0);
        CHECKS.is("less is lost over tags", 4, city.bestFrom(0, 0, 2, 0));
        CHECKS.is("of several the smallest one", 2, city.bestFrom(0, 0, 4, 0));
    }

    private static void bestFromPutsMinutesAndLayersAside() {
        Wallcode city = new Wallcode();
        city.wall(16, 1, 0, 0);
        city.hand(0, 1, 0, 0);
        CHECKS.is("16 burners at speed 1", 0, city.bestFrom(0, 0, 16, 3));
        Wallcode full = new Wallcode();
        full.wall(4, 1, 0, 0);
        full.hand(0, 9, 0, 0);
        for (int layer = 0; layer < 60; layer++) {
            full.paint(0, 0, 0, 1, 0, 0);
        }
        CHECKS.is("with 60 layers", 1, full.bestFrom(0, 0, 1, 0));
    }

    private static void bestFromRefusesWhatIsNotSo() {
        Wallcode city = city();
        CHECKS.is("the wall is not so wide", -1, city.bestFrom(0, 1, 6, 0));
        CHECKS.is("just so wide", 0, city.bestFrom(0, 1, 5, 0));
        CHECKS.is("16 of 8", -1, city.bestFrom(0, 0, 16, 0));
        for (int number : new int[] {-1, 3, MIN, MAX}) {
            CHECKS.refuses("hand " + number, Checks.INDEX, city, () -> city.bestFrom(number, 0, 0, 9));
            CHECKS.refuses("wall " + number, Checks.INDEX, city, () -> city.bestFrom(0, number, 0, 9));
        }
        CHECKS.refuses("wall 2", Checks.INDEX, city, () -> city.bestFrom(0, 2, 1, 0));
        for (int wide : new int[] {0, -1, 17, MIN, MAX}) {
            CHECKS.refuses("wide " + wide, Checks.ARGUMENT, city, () -> city.bestFrom(0, 0, wide, 0));
        }
        for (int kind : new int[] {-1, 4, MIN, MAX}) {
            CHECKS.refuses("kind " + kind, Checks.ARGUMENT, city, () -> city.bestFrom(0, 0, 1, kind));
            CHECKS.refuses("kind " + kind + ", too wide", Checks.ARGUMENT, city,
                () -> city.bestFrom(0, 0, 16, kind));
        }
    }

    private static void wouldWrongIsWhatPaintDoes() {
        for (int kind = 0; kind < 4; kind++) {
            Wallcode city = city();
            city.paint(0, 0, 0, 3, 1, 0);
            city.paint(1, 0, 2, 3, 2, 0);
            city.paint(1, 0, 7, 1, 0, 0);
            city.remember(2);
            long before = city.digest();
            int would = city.wouldWrong(2, 0, 0, 8, kind);
            CHECKS.is("nothing is changed", before, city.digest());
            int[] due = {3, 3, 2, 1};
            CHECKS.is("wouldWrong of kind " + kind, due[kind], would);
            CHECKS.is("paint of kind " + kind, would, city.paint(2, 0, 0, 8, kind, 0));
        }
    }

    private static void wouldWrongPutsMinutesAside() {
        Wallcode city = new Wallcode();
        city.wall(16, 1, 0, 0);
        city.hand(0, 1, 0, 0);
        city.hand(1, 1, 0, 0);
        city.paint(0, 0, 0, 1, 3, 0);
        CHECKS.is("1440 minutes", 1, city.wouldWrong(1, 0, 0, 16, 3));
    }

    private static void wouldWrongRefusesWhatIsNotSo() {
        Wallcode city = city();
        for (int number : new int[] {-1, 3, MIN, MAX}) {
            CHECKS.refuses("hand " + number, Checks.INDEX, city, () -> city.wouldWrong(number, 0, -1, 0, 9));
            CHECKS.refuses("wall " + number, Checks.INDEX, city, () -> city.wouldWrong(0, number, -1, 0, 9));
        }
        int[][] bad = {
            {-1, 1, 0}, {0, 0, 0}, {0, 9, 0}, {8, 1, 0}, {7, 2, 0}, {MIN, 1, 0}, {MAX, MAX, 0}, {1, MAX, 0},
            {0, MIN, 0}, {0, 1, -1}, {0, 1, 4}, {0, 1, MIN}, {0, 1, MAX},
        };
        for (int[] b : bad) {
            CHECKS.refuses("wouldWrong(0, 0, " + b[0] + ", " + b[1] + ", " + b[2] + ")", Checks.ARGUMENT,
                city, () -> city.wouldWrong(0, 0, b[0], b[1], b[2]));
        }
        CHECKS.is("the last cell", 0, city.wouldWrong(0, 0, 7, 1, 0));
    }

    private static void nextBuffIsTheGreatestEyesore() {
        Wallcode city = city();
        city.wall(4, 6, 0, 0);
        CHECKS.is("without an eyesore", -1, city.nextBuff());
        city.paint(0, 0, 0, 3, 0, 0);
        CHECKS.is("the only one", 0, city.nextBuff());
        city.paint(0, 1, 0, 2, 0, 0);
        CHECKS.is("of several the smallest number", 0, city.nextBuff());
        city.paint(0, 2, 0, 2, 0, 0);
        CHECKS.is("the greatest one", 2, city.nextBuff());
        city.buff(2);
        city.permit(0, 0, 400);
        city.clear(0);
        city.paint(0, 0, 0, 8, 0, 0);
        CHECKS.is("what is legal is none", 1, city.nextBuff());
    }

    private static void nextBuffNeedsCoins() {
        Wallcode city = new Wallcode();
        city.wall(16, 9, 0, 0);
        city.wall(4, 1, 0, 0);
        city.hand(0, 9, 0, 0);
        city.paint(0, 0, 0, 14, 0, 0);
        city.buff(0);
        city.paint(0, 0, 0, 16, 0, 0);
        CHECKS.is("16 of 16 coins", 0, city.nextBuff());
        city.paint(0, 1, 0, 1, 0, 0);
        city.buff(1);
        city.paint(0, 1, 0, 1, 0, 0);
        CHECKS.is("16 of 15 coins", 1, city.nextBuff());
        city.clear(1);
        CHECKS.is("only what is too dear", -1, city.nextBuff());
    }

    private static void wouldFameLooksAhead() {
        Wallcode city = new Wallcode();
        city.wall(4, 1, 0, 0);
        city.wall(4, 2, 0, 4);
        city.wall(4, 3, 0, 20);
        city.hand(0, 9, 0, 0);
        city.hand(1, 9, 0, 0);
        city.pass(4);
        for (int wall = 0; wall < 3; wall++) {
            city.paint(0, wall, 0, 2, 0, 0);
        }
        city.paint(1, 0, 3, 1, 0, 0);
        int[] nights = {0, 1, 3, 4, 15, 16, 30};
        int[] due = {12, 12, 12, 8, 8, 2, 2};
        long before = city.digest();
        for (int i = 0; i < nights.length; i++) {
            CHECKS.is("wouldFame(0, " + nights[i] + ")", due[i], city.wouldFame(0, nights[i]));
        }
        CHECKS.is("of another hand", 1, city.wouldFame(1, 30));
        CHECKS.is("nothing is changed", before, city.digest());
        city.pass(3);
        CHECKS.is("a night ahead of a cleaning", 8, city.wouldFame(0, 1));
    }

    private static void wouldFameGoesBeyondTheLastNight() {
        Wallcode city = new Wallcode();
        city.wall(4, 1, 0, 20);
        city.hand(0, 9, 0, 0);
        for (int times = 0; times < 20; times++) {
            city.pass(20);
        }
        city.paint(0, 0, 0, 3, 0, 0);
        CHECKS.is("night", 400, city.many(0));
        CHECKS.is("up to 419", 3, city.wouldFame(0, 19));
        CHECKS.is("up to 420", 0, city.wouldFame(0, 20));
        CHECKS.is("up to 430", 0, city.wouldFame(0, 30));
    }

    private static void wouldFameRefusesWhatIsNotSo() {
        Wallcode city = city();
        for (int hand : new int[] {-1, 3, MIN, MAX}) {
            CHECKS.refuses("wouldFame(" + hand + ", 31)", Checks.INDEX, city, () -> city.wouldFame(hand, 31));
        }
        for (int nights : new int[] {-1, 31, MIN, MAX}) {
            CHECKS.refuses("wouldFame(0, " + nights + ")", Checks.ARGUMENT, city,
                () -> city.wouldFame(0, nights));
        }
    }

    private static void digestMixesAllOfIt() {
        Wallcode city = new Wallcode();
        CHECKS.is("of a new city", Digests.of(city), city.digest());
        city.wall(8, 2, 0, 3);
        CHECKS.is("without a hand", Digests.of(city), city.digest());
        Wallcode hands = new Wallcode();
        hands.hand(0, 9, 0, 0);
        CHECKS.is("without a wall", Digests.of(hands), hands.digest());
        city.hand(0, 9, 3, 6);
        city.hand(1, 9, 4, 5);
        city.wall(5, 3, 1, 0);
        city.watch(0, 0, 30);
        city.paint(0, 0, 0, 3, 1, 1);
        city.paint(1, 0, 1, 3, 1, -1);
        city.paint(1, 1, 1, 3, 2, 0);
        city.remember(0);
        city.waive(1);
        CHECKS.is("of a city with all of it", Digests.of(city), city.digest());
        city.pass(1);
        CHECKS.is("a night later", Digests.of(city), city.digest());
        Wallcode bare = new Wallcode();
        bare.wall(5, 1, 0, 0);
        bare.hand(0, 9, 0, 0);
        bare.hand(1, 9, 0, 0);
        bare.paint(1, 0, 0, 2, 1, 0);
        bare.paint(1, 0, 4, 1, 1, 0);
        CHECKS.is("best from cell 2, two cells wide", 2, bare.bestFrom(0, 0, 2, 1));
        CHECKS.is("but not three", 0, bare.bestFrom(0, 0, 3, 1));
        CHECKS.is("of that city", Digests.of(bare), bare.digest());
    }
}
