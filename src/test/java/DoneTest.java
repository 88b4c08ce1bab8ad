/** Promises 7 to 13: buff, clear, sell, waive, remember, pay, pass. */
public final class DoneTest {
    private static final int[] NO_NUMBERS = {-1, 99, Integer.MIN_VALUE, Integer.MAX_VALUE};
    private static final Checks CHECKS = new Checks("DoneTest");

    public static void main(String[] args) {
        buffTakesWhatHasNoPermit();
        buffTakesLegalLayersWithoutPermitByNow();
        buffNeedsCoins();
        buffRefusesNoWall();
        clearOwesLegalPiecesAndBurners();
        clearOwesNothingForWaivedOnes();
        clearRefusesNoWall();
        sellCutsOutAtItsPrice();
        sellRefusesWhatIsNotSeen();
        waiveAndRememberAnswerOnce();
        waiveAndRememberRefuseNoLayer();
        payLeavesCoins();
        passGoesOn();
        passCleansWalls();
        passRefusesWhatIsNotSo();
        passEndsAtFourHundred();
        CHECKS.end();
    }

    /** A wall of 8 cells and sight 2, one of 16 cells and sight 3, hands of the crews 0, 1 and 0. */
    private static Wallcode city() {
        Wallcode city = new Wallcode();
        city.wall(8, 2, 0, 0);
        city.wall(16, 3, 1, 0);
        city.hand(0, 9, 3, 6);
        city.hand(1, 9, 4, 5);
        city.hand(0, 9, 8, 2);
        return city;
    }

    private static void buffTakesWhatHasNoPermit() {
        Wallcode city = city();
        CHECKS.is("a bare wall", 0, city.buff(0));
        city.paint(1, 0, 0, 2, 0, 0);
        city.permit(0, 0, 400);
        city.paint(0, 0, 2, 2, 0, 0);
        city.paint(1, 0, 6, 1, 0, 0);
        CHECKS.is("eyesore", 6, city.ofWall(0, 5));
        CHECKS.is("buff(0)", 3, city.buff(0));
        int[] due = {-1, -1, 1, 1, -1, -1, -1, -1};
        for (int cell = 0; cell < 8; cell++) {
            CHECKS.is("shows(0, " + cell + ")", due[cell], city.shows(0, cell));
        }
        CHECKS.is("coins", 27, city.many(5));
        CHECKS.is("once more", 0, city.buff(0));
    }

    private static void buffTakesLegalLayersWithoutPermitByNow() {
        Wallcode city = city();
        city.paint(2, 0, 7, 1, 0, 0);
        city.permit(0, 0, 1);
        city.paint(0, 0, 0, 2, 2, 0);
        CHECKS.is("not legal, though its crew has the permit by now", 1, city.buff(0));
        city.pass(1);
        CHECKS.is("in its last night", 0, city.buff(0));
        city.pass(1);
        CHECKS.is("it ran out", 2, city.buff(0));
        city.permit(0, 0, 400);
        city.paint(0, 0, 0, 3, 2, 0);
        city.permit(0, 1, 400);
        CHECKS.is("another crew has it", 3, city.buff(0));
    }

    private static void buffNeedsCoins() {
        Wallcode city = city();
        city.paint(0, 1, 0, 16, 0, 0);
        CHECKS.is("16 of 30", 16, city.buff(1));
        city.paint(0, 1, 0, 15, 0, 0);
        CHECKS.refuses("15 of 14", Checks.STATE, city, () -> city.buff(1));
        CHECKS.is("nothing is taken off", 15, city.ofWall(1, 4));
        city.paint(0, 0, 0, 8, 0, 0);
        CHECKS.is("8 of 14", 8, city.buff(0));
        CHECKS.is("coins", 6, city.many(5));
        city.paint(0, 0, 0, 6, 0, 0);
        CHECKS.is("6 of 6", 6, city.buff(0));
        CHECKS.is("no coins", 0, city.many(5));
        CHECKS.is("nothing costs nothing", 0, city.buff(0));
        city.pass(3);
        CHECKS.is("15 of 15", 15, city.buff(1));
    }

    private static void buffRefusesNoWall() {
        Wallcode city = city();
        for (int wall : NO_NUMBERS) {
            CHECKS.refuses("buff(" + wall + ")", Checks.INDEX, city, () -> city.buff(wall));
        }
        CHECKS.refuses("buff(2)", Checks.INDEX, city, () -> city.buff(2));
    }

    private static void clearOwesLegalPiecesAndBurners() {
        Wallcode city = city();
        city.permit(1, 0, 400);
        city.paint(0, 1, 0, 3, 2, 0);
        city.paint(2, 1, 3, 2, 3, 0);
        city.paint(0, 1, 5, 2, 1, 0);
        city.paint(0, 1, 7, 2, 0, 0);
        city.paint(1, 1, 9, 2, 3, 0);
        city.paint(2, 1, 2, 1, 0, 0);
        CHECKS.is("clear(1)", 5 * 4 * 2 + 5 * 7 * 2, city.clear(1));
        CHECKS.is("owed to 0", 40, city.ofHand(0, 9));
        CHECKS.is("owed to 1, who was not legal", 0, city.ofHand(1, 9));
        CHECKS.is("owed to 2", 70, city.ofHand(2, 9));
        CHECKS.is("owed together", 110, city.many(9));
        CHECKS.is("the wall is bare", 0, city.ofWall(1, 4));
        CHECKS.is("coins stay", 30, city.many(5));
        CHECKS.is("once more", 0, city.clear(1));
        city.pass(1);
        city.paint(0, 1, 0, 1, 2, 0);
        city.permit(1, 1, 400);
        CHECKS.is("legal, though the permit is gone", 20, city.clear(1));
        CHECKS.is("owed to 0 together", 60, city.ofHand(0, 9));
    }

    private static void clearOwesNothingForWaivedOnes() {
        Wallcode city = city();
        city.permit(0, 0, 400);
        city.paint(0, 0, 0, 2, 2, 0);
        city.paint(0, 0, 2, 2, 2, 0);
        city.paint(0, 1, 0, 2, 0, 0);
        city.waive(0);
        CHECKS.is("clear(0)", 40, city.clear(0));
        CHECKS.is("another wall stays", 2, city.ofWall(1, 4));
    }

    private static void clearRefusesNoWall() {
        Wallcode city = city();
        for (int wall : NO_NUMBERS) {
            CHECKS.refuses("clear(" + wall + ")", Checks.INDEX, city, () -> city.clear(wall));
        }
        CHECKS.refuses("clear(2)", Checks.INDEX, city, () -> city.clear(2));
    }

    private static void sellCutsOutAtItsPrice() {
        Wallcode city = city();
        city.paint(0, 0, 0, 6, 2, 0);
        city.paint(0, 1, 0, 3, 3, 0);
        city.paint(1, 0, 2, 2, 0, 0);
        int fame = 2 * 4 * 4 + 3 * 7 * 3;
        CHECKS.is("fame", fame, city.ofHand(0, 4));
        CHECKS.is("the price ahead", 4 * 4 * (10 + fame / 10), city.ofLayer(0, 12));
        CHECKS.is("sell(0)", 4 * 4 * (10 + fame / 10), city.sell(0));
        int[] due = {-1, -1, 2, 2, -1, -1, -1, -1};
        for (int cell = 0; cell < 8; cell++) {
            CHECKS.is("shows(0, " + cell + ")", due[cell], city.shows(0, cell));
        }
        CHECKS.is("got for it", 16 * 19, city.many(10));
        CHECKS.is("coins stay", 30, city.many(5));
        CHECKS.is("nothing is owed", 0, city.many(9));
        CHECKS.is("the other one, with less fame", 7 * 3 * (10 + 63 / 10), city.sell(1));
        CHECKS.is("got for both", 16 * 19 + 21 * 16, city.many(10));
    }

    private static void sellRefusesWhatIsNotSeen() {
        Wallcode city = city();
        city.paint(0, 0, 0, 2, 0, 0);
        city.paint(1, 0, 0, 2, 0, 0);
        CHECKS.refuses("a covered layer", Checks.STATE, city, () -> city.sell(0));
        city.sell(1);
        CHECKS.refuses("a sold layer", Checks.STATE, city, () -> city.sell(1));
        CHECKS.refuses("sell(2)", Checks.INDEX, city, () -> city.sell(2));
        for (int layer : NO_NUMBERS) {
            CHECKS.refuses("sell(" + layer + ")", Checks.INDEX, city, () -> city.sell(layer));
        }
    }

    private static void waiveAndRememberAnswerOnce() {
        Wallcode city = city();
        city.paint(0, 0, 0, 2, 0, 0);
        city.paint(0, 0, 0, 2, 0, 0);
        CHECKS.isTrue("waive(0)", city.waive(0));
        CHECKS.isTrue("waive(0) again", !city.waive(0));
        CHECKS.is("ofLayer(0, 7)", 1, city.ofLayer(0, 7));
        CHECKS.is("ofLayer(0, 8)", 0, city.ofLayer(0, 8));
        CHECKS.is("ofLayer(1, 7)", 0, city.ofLayer(1, 7));
        CHECKS.isTrue("remember(1)", city.remember(1));
        CHECKS.isTrue("remember(1) again", !city.remember(1));
        CHECKS.is("ofLayer(1, 8)", 1, city.ofLayer(1, 8));
        CHECKS.is("ofLayer(1, 7), still", 0, city.ofLayer(1, 7));
        CHECKS.is("ofLayer(0, 8), still", 0, city.ofLayer(0, 8));
    }

    private static void waiveAndRememberRefuseNoLayer() {
        Wallcode city = city();
        city.paint(0, 0, 0, 2, 0, 0);
        for (int layer : new int[] {-1, 1, Integer.MIN_VALUE, Integer.MAX_VALUE}) {
            CHECKS.refuses("waive(" + layer + ")", Checks.INDEX, city, () -> city.waive(layer) ? 1 : 0);
            CHECKS.refuses("remember(" + layer + ")", Checks.INDEX, city, () -> city.remember(layer) ? 1 : 0);
        }
    }

    private static void payLeavesCoins() {
        Wallcode city = city();
        city.watch(0, 0, 359);
        city.paint(0, 0, 0, 1, 3, 0);
        city.paint(0, 0, 0, 1, 1, 0);
        city.paint(1, 0, 0, 1, 0, 0);
        CHECKS.is("fines together", 100, city.many(8));
        CHECKS.is("pay(0)", 80, city.pay(0));
        CHECKS.is("pay(0) again", 0, city.pay(0));
        CHECKS.is("ofHand(0, 2)", 0, city.ofHand(0, 2));
        CHECKS.is("still known", 1, city.ofHand(0, 3));
        CHECKS.is("caught as often", 2, city.ofHand(0, 10));
        CHECKS.is("coins stay", 30, city.many(5));
        CHECKS.is("what is not paid", 20, city.many(8));
        for (int hand : new int[] {-1, 3, Integer.MIN_VALUE, Integer.MAX_VALUE}) {
            CHECKS.refuses("pay(" + hand + ")", Checks.INDEX, city, () -> city.pay(hand));
        }
    }

    private static void passGoesOn() {
        Wallcode city = city();
        city.paint(0, 0, 0, 2, 3, 0);
        CHECKS.is("pass(1)", 0, city.pass(1));
        CHECKS.is("night", 1, city.many(0));
        CHECKS.is("coins", 35, city.many(5));
        CHECKS.is("minutes", 360, city.ofHand(0, 1));
        CHECKS.is("pass(30)", 0, city.pass(30));
        CHECKS.is("night", 31, city.many(0));
        CHECKS.is("coins", 185, city.many(5));
        CHECKS.is("a wall without a cleaning", 2, city.ofWall(0, 4));
    }

    private static void passCleansWalls() {
        Wallcode city = new Wallcode();
        city.wall(4, 1, 0, 2);
        city.wall(5, 1, 0, 3);
        city.wall(6, 1, 0, 20);
        city.hand(0, 9, 0, 0);
        for (int wall = 0; wall < 3; wall++) {
            city.paint(0, wall, 0, 3 + wall, 0, 0);
        }
        CHECKS.is("night 1", 0, city.pass(1));
        CHECKS.is("night 2", 3, city.pass(1));
        CHECKS.is("the first wall is bare", 0, city.ofWall(0, 4));
        CHECKS.is("the second one is not", 4, city.ofWall(1, 4));
        city.paint(0, 0, 0, 2, 0, 0);
        CHECKS.is("nights 3 and 4", 4 + 2, city.pass(2));
        CHECKS.is("up to 19", 0, city.pass(15));
        city.paint(0, 0, 0, 1, 0, 0);
        CHECKS.is("night 20", 1 + 5, city.pass(1));
        city.paint(0, 2, 0, 6, 0, 0);
        CHECKS.is("up to 39", 0, city.pass(19));
        CHECKS.is("night 40", 6, city.pass(1));
    }

    private static void passRefusesWhatIsNotSo() {
        Wallcode city = city();
        city.paint(0, 0, 0, 1, 0, 0);
        for (int nights : new int[] {0, -1, 31, Integer.MIN_VALUE, Integer.MAX_VALUE}) {
            CHECKS.refuses("pass(" + nights + ")", Checks.ARGUMENT, city, () -> city.pass(nights));
        }
    }

    private static void passEndsAtFourHundred() {
        Wallcode city = city();
        for (int times = 0; times < 13; times++) {
            city.pass(30);
        }
        CHECKS.refuses("up to 401", Checks.STATE, city, () -> city.pass(11));
        city.pass(10);
        CHECKS.is("night", 400, city.many(0));
        CHECKS.is("coins", 2030, city.many(5));
        CHECKS.refuses("one more", Checks.STATE, city, () -> city.pass(1));
        CHECKS.refuses("31 more", Checks.ARGUMENT, city, () -> city.pass(31));
        CHECKS.refuses("none", Checks.ARGUMENT, city, () -> city.pass(0));
    }
}
