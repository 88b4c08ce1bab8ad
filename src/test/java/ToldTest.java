/** Promises 1 to 5: a new object, wall, hand, permit, watch. */
public final class ToldTest {
    private static final int MIN = Integer.MIN_VALUE;
    private static final int MAX = Integer.MAX_VALUE;
    private static final Checks CHECKS = new Checks("ToldTest");

    public static void main(String[] args) {
        aNewCityIsEmpty();
        wallsAreNumberedAndKept();
        wallsRefuseWhatIsNotSo();
        thereAreAtMostSixWalls();
        handsAreNumberedAndKept();
        handsRefuseWhatIsNotSo();
        thereAreAtMostEightHands();
        permitsTakeTheirPlaceAndRunOut();
        permitsRefuseWhatIsNotSo();
        watchesTakeTheirPlace();
        watchesRefuseWhatIsNotSo();
        CHECKS.end();
    }

    private static void aNewCityIsEmpty() {
        Wallcode city = new Wallcode();
        for (int what = 0; what <= 11; what++) {
            CHECKS.is("new: many(" + what + ")", what == 5 ? 30 : 0, city.many(what));
        }
        CHECKS.isDouble("new: meanFame()", 0.0, city.meanFame());
        CHECKS.is("new: nextBuff()", -1, city.nextBuff());
        CHECKS.refuses("new: shows(0, 0)", Checks.INDEX, city, () -> city.shows(0, 0));
        CHECKS.refuses("new: ofHand(0, 0)", Checks.INDEX, city, () -> city.ofHand(0, 0));
        CHECKS.refuses("new: ofLayer(0, 0)", Checks.INDEX, city, () -> city.ofLayer(0, 0));
    }

    private static void wallsAreNumberedAndKept() {
        Wallcode city = new Wallcode();
        CHECKS.is("wall(4, 1, 0, 0)", 0, city.wall(4, 1, 0, 0));
        CHECKS.is("wall(16, 9, 3, 20)", 1, city.wall(16, 9, 3, 20));
        CHECKS.is("wall(7, 5, 2, 2)", 2, city.wall(7, 5, 2, 2));
        int[][] due = {{4, 1, 0, -1, 0, 0, 0}, {16, 9, 3, -1, 0, 0, 0}, {7, 5, 2, -1, 0, 0, 0}};
        for (int wall = 0; wall < 3; wall++) {
            for (int what = 0; what <= 6; what++) {
                CHECKS.is("ofWall(" + wall + ", " + what + ")", due[wall][what], city.ofWall(wall, what));
            }
        }
        CHECKS.is("many(1)", 3, city.many(1));
    }

    private static void wallsRefuseWhatIsNotSo() {
        Wallcode city = new Wallcode();
        int[][] bad = {
            {3, 1, 0, 0}, {17, 1, 0, 0}, {MIN, 1, 0, 0}, {MAX, 1, 0, 0},
            {4, 0, 0, 0}, {4, 10, 0, 0}, {4, 1, -1, 0}, {4, 1, 4, 0},
            {4, 1, 0, -1}, {4, 1, 0, 1}, {4, 1, 0, 21}, {4, 1, 0, -2}, {4, 1, 0, MIN}, {4, 1, 0, MAX},
        };
        for (int[] b : bad) {
            CHECKS.refuses("wall" + java.util.Arrays.toString(b), Checks.ARGUMENT, city,
                () -> city.wall(b[0], b[1], b[2], b[3]));
        }
        CHECKS.is("many(1) behind what was refused", 0, city.many(1));
    }

    private static void thereAreAtMostSixWalls() {
        Wallcode city = new Wallcode();
        for (int wall = 0; wall < 6; wall++) {
            CHECKS.is("wall " + wall, wall, city.wall(4, 1, 0, 0));
        }
        CHECKS.refuses("a seventh wall", Checks.STATE, city, () -> city.wall(4, 1, 0, 0));
        CHECKS.refuses("a seventh wall that is not so", Checks.ARGUMENT, city, () -> city.wall(3, 1, 0, 0));
        CHECKS.is("many(1)", 6, city.many(1));
    }

    private static void handsAreNumberedAndKept() {
        Wallcode city = new Wallcode();
        CHECKS.is("hand(0, 1, 0, 0)", 0, city.hand(0, 1, 0, 0));
        CHECKS.is("hand(3, 9, 9, 9)", 1, city.hand(3, 9, 9, 9));
        for (int hand = 0; hand < 2; hand++) {
            for (int what = 0; what <= 10; what++) {
                int due = what == 0 ? 3 * hand : what == 1 ? 360 : 0;
                CHECKS.is("ofHand(" + hand + ", " + what + ")", due, city.ofHand(hand, what));
            }
        }
        CHECKS.is("many(2)", 2, city.many(2));
    }

    private static void handsRefuseWhatIsNotSo() {
        Wallcode city = new Wallcode();
        int[][] bad = {
            {-1, 1, 0, 0}, {4, 1, 0, 0}, {0, 0, 0, 0}, {0, 10, 0, 0}, {0, 1, -1, 0}, {0, 1, 10, 0},
            {0, 1, 0, -1}, {0, 1, 0, 10}, {MIN, 1, 0, 0}, {0, MAX, 0, 0}, {0, 1, MIN, 0}, {0, 1, 0, MAX},
        };
        for (int[] b : bad) {
            CHECKS.refuses("hand" + java.util.Arrays.toString(b), Checks.ARGUMENT, city,
                () -> city.hand(b[0], b[1], b[2], b[3]));
        }
        CHECKS.is("many(2) behind what was refused", 0, city.many(2));
    }

    private static void thereAreAtMostEightHands() {
        Wallcode city = new Wallcode();
        for (int hand = 0; hand < 8; hand++) {
            CHECKS.is("hand " + hand, hand, city.hand(0, 1, 0, 0));
        }
        CHECKS.refuses("a ninth hand", Checks.STATE, city, () -> city.hand(0, 1, 0, 0));
        CHECKS.refuses("a ninth hand that is not so", Checks.ARGUMENT, city, () -> city.hand(4, 1, 0, 0));
        CHECKS.is("many(2)", 8, city.many(2));
    }

    private static void permitsTakeTheirPlaceAndRunOut() {
        Wallcode city = new Wallcode();
        city.wall(4, 1, 0, 0);
        city.wall(4, 1, 0, 0);
        CHECKS.is("the first permit", -1, city.permit(0, 2, 0));
        CHECKS.is("the crew with it", 2, city.ofWall(0, 3));
        CHECKS.is("another wall has none", -1, city.ofWall(1, 3));
        CHECKS.is("a permit in its last night", 2, city.permit(0, 3, 2));
        city.pass(2);
        CHECKS.is("it goes on up to that night", 3, city.ofWall(0, 3));
        city.pass(1);
        CHECKS.is("it ran out", -1, city.ofWall(0, 3));
        CHECKS.is("a permit that ran out is none", -1, city.permit(0, 0, 400));
        CHECKS.is("the former crew", 0, city.permit(0, 0, 3));
        CHECKS.is("the former one is gone, though it was longer", 0, city.ofWall(0, 3));
        city.pass(1);
        CHECKS.is("the shorter one ran out", -1, city.ofWall(0, 3));
    }

    private static void permitsRefuseWhatIsNotSo() {
        Wallcode city = new Wallcode();
        city.wall(4, 1, 0, 0);
        city.pass(5);
        city.permit(0, 1, 6);
        for (int wall : new int[] {-1, 1, MIN, MAX}) {
            CHECKS.refuses("permit of wall " + wall, Checks.INDEX, city, () -> city.permit(wall, 9, -9));
        }
        int[][] bad = {{-1, 7}, {4, 7}, {0, 4}, {0, 401}, {0, -1}, {MIN, 7}, {MAX, 7}, {0, MIN}, {0, MAX}};
        for (int[] b : bad) {
            CHECKS.refuses("permit(0, " + b[0] + ", " + b[1] + ")", Checks.ARGUMENT, city,
                () -> city.permit(0, b[0], b[1]));
        }
        CHECKS.is("what was refused changed nothing", 1, city.ofWall(0, 3));
        city.pass(1);
        CHECKS.is("nor the night", 1, city.ofWall(0, 3));
        city.pass(1);
        CHECKS.is("up to which it goes", -1, city.ofWall(0, 3));
        CHECKS.is("permit up to 400", -1, city.permit(0, 1, 400));
    }

    private static void watchesTakeTheirPlace() {
        Wallcode city = new Wallcode();
        city.wall(16, 1, 0, 0);
        city.hand(0, 1, 0, 0);
        CHECKS.is("watch(0, 0, 359)", 360, city.watch(0, 0, 359));
        CHECKS.is("watch(0, 359, 359)", 1, city.watch(0, 359, 359));
        CHECKS.is("watch(0, 6, 10)", 5, city.watch(0, 6, 10));
        city.paint(0, 0, 0, 1, 0, 0);
        CHECKS.is("minutes 0 to 5 are ahead of the watch that was told last", 0, city.ofHand(0, 10));
        city.paint(0, 0, 0, 1, 0, 0);
        CHECKS.is("minutes 6 to 11 are in it", 1, city.ofHand(0, 10));
    }

    private static void watchesRefuseWhatIsNotSo() {
        Wallcode city = new Wallcode();
        city.wall(16, 1, 0, 0);
        city.hand(0, 1, 0, 0);
        city.watch(0, 6, 6);
        for (int wall : new int[] {-1, 1, MIN, MAX}) {
            CHECKS.refuses("watch of wall " + wall, Checks.INDEX, city, () -> city.watch(wall, -1, 500));
        }
        int[][] bad = {{-1, 5}, {360, 360}, {5, 4}, {0, 360}, {5, -1}, {MIN, MAX}, {MAX, MAX}, {0, MIN}};
        for (int[] b : bad) {
            CHECKS.refuses("watch(0, " + b[0] + ", " + b[1] + ")", Checks.ARGUMENT, city,
                () -> city.watch(0, b[0], b[1]));
        }
        city.paint(0, 0, 0, 1, 0, 0);
        CHECKS.is("what was refused changed nothing", 0, city.ofHand(0, 10));
        city.paint(0, 0, 0, 1, 0, 0);
        CHECKS.is("the watch stays", 1, city.ofHand(0, 10));
    }
}
