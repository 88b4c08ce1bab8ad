/** Promises 14 to 21: ofWall, shows, ofHand, ofLayer, wrongs, likeness, many, meanFame. */
public final class AskedTest {
    private static final int MIN = Integer.MIN_VALUE;
    private static final int MAX = Integer.MAX_VALUE;
    private static final Checks CHECKS = new Checks("AskedTest");

    public static void main(String[] args) {
        ofWallCountsCellsAndLayers();
        showsRefusesNoCell();
        ofHandCountsItsLayers();
        ofHandAddsFameOverWalls();
        ofLayerShowsSlantAndRound();
        ofLayerPriceTakesATenthOfFame();
        suspectIsTheNearestKnownHand();
        suspectIsFoundByItsRoundToo();
        wrongsAreOfTheFirstToTheOther();
        likenessOfTwoLayers();
        manyAddsUp();
        manyCountsWrongSuspects();
        meanFameIsNotCut();
        questionsRefuseWhatIsNotThere();
        CHECKS.end();
    }

    /** A wall of 8 cells and sight 2, one of 5 cells and sight 3, hands of the crews 0, 1, 2 and 0. */
    private static Wallcode city() {
        Wallcode city = new Wallcode();
        city.wall(8, 2, 3, 0);
        city.wall(5, 3, 1, 0);
        city.hand(0, 9, 3, 6);
        city.hand(1, 9, 4, 5);
        city.hand(2, 9, 8, 2);
        city.hand(0, 9, 0, 9);
        return city;
    }

    private static void ofWallCountsCellsAndLayers() {
        Wallcode city = city();
        city.permit(0, 1, 0);
        city.paint(0, 0, 0, 4, 0, 0);
        city.paint(1, 0, 1, 2, 0, 0);
        city.paint(2, 0, 7, 1, 0, 0);
        city.paint(3, 0, 7, 1, 0, 0);
        city.paint(3, 1, 0, 5, 0, 0);
        CHECKS.is("of hand 0", 1, city.ofHand(0, 6));
        CHECKS.is("all that are seen", 4, city.many(4));
        int[] due = {8, 2, 3, 1, 5, 2 * 3, 3};
        for (int what = 0; what <= 6; what++) {
            CHECKS.is("ofWall(0, " + what + ")", due[what], city.ofWall(0, what));
        }
        city.pass(1);
        CHECKS.is("the permit ran out", -1, city.ofWall(0, 3));
        CHECKS.is("and all is an eyesore", 2 * 5, city.ofWall(0, 5));
        CHECKS.is("layers on the other wall", 1, city.ofWall(1, 6));
        CHECKS.is("eyesore of the other wall", 15, city.ofWall(1, 5));
        for (int what : new int[] {-1, 7, MIN, MAX}) {
            CHECKS.refuses("ofWall(0, " + what + ")", Checks.ARGUMENT, city, () -> city.ofWall(0, what));
            CHECKS.refuses("ofWall(2, " + what + ")", Checks.INDEX, city, () -> city.ofWall(2, what));
        }
    }

    private static void showsRefusesNoCell() {
        Wallcode city = city();
        for (int cell : new int[] {-1, 8, 16, MIN, MAX}) {
            CHECKS.refuses("shows(0, " + cell + ")", Checks.INDEX, city, () -> city.shows(0, cell));
        }
        CHECKS.refuses("shows(1, 5)", Checks.INDEX, city, () -> city.shows(1, 5));
        CHECKS.refuses("shows(2, 0)", Checks.INDEX, city, () -> city.shows(2, 0));
        CHECKS.refuses("shows(-1, 0)", Checks.INDEX, city, () -> city.shows(-1, 0));
        CHECKS.is("the last cell is bare", -1, city.shows(1, 4));
    }

    private static void ofHandCountsItsLayers() {
        Wallcode city = city();
        city.paint(0, 0, 0, 4, 0, 0);
        city.paint(0, 1, 0, 4, 0, 0);
        city.paint(0, 0, 0, 4, 0, 0);
        city.paint(1, 1, 0, 3, 0, 0);
        CHECKS.is("layers", 3, city.ofHand(0, 5));
        CHECKS.is("those that are seen", 2, city.ofHand(0, 6));
        city.clear(0);
        CHECKS.is("layers behind a clearing", 3, city.ofHand(0, 5));
        CHECKS.is("seen behind a clearing", 1, city.ofHand(0, 6));
        CHECKS.is("another hand", 1, city.ofHand(1, 6));
        for (int what : new int[] {-1, 11, MIN, MAX}) {
            CHECKS.refuses("ofHand(0, " + what + ")", Checks.ARGUMENT, city, () -> city.ofHand(0, what));
            CHECKS.refuses("ofHand(4, " + what + ")", Checks.INDEX, city, () -> city.ofHand(4, what));
        }
    }

    private static void ofHandAddsFameOverWalls() {
        Wallcode city = city();
        city.paint(0, 0, 0, 3, 3, 0);
        city.paint(0, 1, 0, 2, 1, 0);
        city.paint(3, 1, 2, 3, 0, 0);
        CHECKS.is("fame of 0", 2 * 7 * 3 + 3 * 2 * 2, city.ofHand(0, 4));
        CHECKS.is("fame of 3, of the same crew", 9, city.ofHand(3, 4));
        CHECKS.is("fame of 1", 0, city.ofHand(1, 4));
        city.paint(1, 0, 2, 1, 2, 0);
        CHECKS.is("fame of 0 with a cell less", 2 * 7 * 2 + 12, city.ofHand(0, 4));
        CHECKS.is("fame of 1 with that cell", 8, city.ofHand(1, 4));
    }

    private static void ofLayerShowsSlantAndRound() {
        Wallcode city = city();
        for (int wobble = -2; wobble <= 2; wobble++) {
            city.paint(3, 0, 0, 1, 0, wobble);
            CHECKS.is("slant with wobble " + wobble, wobble, city.ofLayer(wobble + 2, 10));
            CHECKS.is("round with wobble " + wobble, 9 - wobble, city.ofLayer(wobble + 2, 11));
        }
        for (int what : new int[] {-1, 14, MIN, MAX}) {
            CHECKS.refuses("ofLayer(0, " + what + ")", Checks.ARGUMENT, city, () -> city.ofLayer(0, what));
            CHECKS.refuses("ofLayer(5, " + what + ")", Checks.INDEX, city, () -> city.ofLayer(5, what));
        }
    }

    private static void ofLayerPriceTakesATenthOfFame() {
        Wallcode city = city();
        city.paint(0, 1, 0, 3, 0, 0);
        CHECKS.is("fame 9", 3 * 10, city.ofLayer(0, 12));
        city.paint(0, 0, 0, 5, 0, 0);
        CHECKS.is("fame 19", 3 * 11, city.ofLayer(0, 12));
        city.paint(0, 1, 3, 2, 0, 0);
        CHECKS.is("fame 25", 3 * 12, city.ofLayer(0, 12));
        city.paint(1, 1, 0, 2, 3, 0);
        CHECKS.is("fame 19, in one cell", 11, city.ofLayer(0, 12));
        CHECKS.is("of a burner of fame 42", 7 * 2 * 14, city.ofLayer(3, 12));
        city.paint(1, 1, 0, 3, 3, 0);
        CHECKS.is("not seen", 0, city.ofLayer(0, 12));
    }

    private static void suspectIsTheNearestKnownHand() {
        Wallcode city = new Wallcode();
        city.wall(4, 1, 0, 0);
        city.wall(4, 1, 0, 0);
        city.hand(0, 9, 4, 4);
        city.hand(1, 9, 2, 4);
        city.hand(2, 9, 6, 4);
        city.hand(3, 9, 9, 9);
        city.watch(1, 0, 359);
        city.paint(0, 0, 0, 1, 0, 0);
        CHECKS.is("without a known hand", -1, city.ofLayer(0, 13));
        city.paint(3, 1, 0, 1, 0, 0);
        CHECKS.is("the only known one", 3, city.ofLayer(0, 13));
        city.paint(2, 1, 1, 1, 0, 0);
        CHECKS.is("the nearer one", 2, city.ofLayer(0, 13));
        city.paint(1, 1, 2, 1, 0, 0);
        CHECKS.is("of several the smallest number", 1, city.ofLayer(0, 13));
        city.paint(0, 0, 1, 1, 0, 2);
        CHECKS.is("what is shown counts: 6 and 2", 2, city.ofLayer(4, 13));
        city.paint(0, 1, 3, 1, 0, 0);
        CHECKS.is("its own hand", 0, city.ofLayer(0, 13));
        CHECKS.is("a layer that shows 4 and 4", 0, city.ofLayer(5, 13));
        CHECKS.is("6 and 2 again, 2 is nearer than 0", 2, city.ofLayer(4, 13));
        city.clear(0);
        CHECKS.is("also if it is not seen", 0, city.ofLayer(0, 13));
    }

    private static void suspectIsFoundByItsRoundToo() {
        Wallcode city = new Wallcode();
        city.wall(4, 1, 0, 0);
        city.hand(0, 9, 5, 9);
        city.hand(1, 9, 5, 1);
        city.hand(2, 9, 5, 7);
        city.paint(2, 0, 0, 1, 0, 0);
        city.watch(0, 0, 359);
        city.paint(0, 0, 1, 1, 0, 0);
        city.paint(1, 0, 2, 1, 0, 0);
        CHECKS.is("round 7 is nearer to 9 than to 1", 0, city.ofLayer(0, 13));
    }

    private static void wrongsAreOfTheFirstToTheOther() {
        Wallcode city = city();
        city.paint(0, 0, 0, 4, 0, 0);
        city.paint(1, 0, 0, 1, 0, 0);
        city.paint(1, 0, 1, 1, 0, 0);
        CHECKS.is("wrongs(1, 0)", 2, city.wrongs(1, 0));
        CHECKS.is("wrongs(0, 1)", 0, city.wrongs(0, 1));
        CHECKS.is("wrongs(1, 1)", 0, city.wrongs(1, 1));
        city.paint(0, 0, 0, 2, 0, 0);
        CHECKS.is("wrongs(0, 1), back", 2, city.wrongs(0, 1));
        CHECKS.is("ofHand(1, 8)", 2, city.ofHand(1, 8));
        for (int hand : new int[] {-1, 4, 7, MIN, MAX}) {
            CHECKS.refuses("wrongs(0, " + hand + ")", Checks.INDEX, city, () -> city.wrongs(0, hand));
            CHECKS.refuses("wrongs(" + hand + ", 0)", Checks.INDEX, city, () -> city.wrongs(hand, 0));
        }
    }

    private static void likenessOfTwoLayers() {
        Wallcode city = new Wallcode();
        city.wall(4, 1, 0, 0);
        city.hand(0, 9, 0, 9);
        city.hand(0, 9, 9, 0);
        city.paint(0, 0, 0, 1, 0, 0);
        city.paint(0, 0, 0, 1, 0, 2);
        city.paint(0, 0, 0, 1, 0, -2);
        city.paint(1, 0, 0, 1, 0, 2);
        CHECKS.is("itself", 20, city.likeness(0, 0));
        CHECKS.is("0 and 9, 2 and 7", 16, city.likeness(0, 1));
        CHECKS.is("the other way round", 16, city.likeness(1, 0));
        CHECKS.is("2 and 7, -2 and 11", 12, city.likeness(1, 2));
        CHECKS.is("-2 and 11, 11 and -2", -6, city.likeness(2, 3));
        for (int layer : new int[] {-1, 4, MIN, MAX}) {
            CHECKS.refuses("likeness(0, " + layer + ")", Checks.INDEX, city, () -> city.likeness(0, layer));
            CHECKS.refuses("likeness(" + layer + ", 0)", Checks.INDEX, city, () -> city.likeness(layer, 0));
        }
    }

    private static void manyAddsUp() {
        Wallcode city = city();
        city.permit(1, 0, 400);
        city.watch(0, 0, 359);
        city.pass(2);
        city.paint(0, 0, 0, 4, 3, 0);
        city.paint(1, 0, 0, 4, 3, 0);
        city.paint(3, 1, 0, 2, 2, 0);
        city.paint(0, 1, 2, 1, 3, 0);
        city.sell(1);
        city.clear(1);
        city.paint(2, 0, 0, 2, 0, 0);
        int sold = 28 * (10 + 56 / 10);
        int[] due = {2, 2, 4, 5, 1, 40, 1, 3, 50 + 50 + 20, 40 + 35, sold, 0};
        for (int what = 0; what <= 11; what++) {
            CHECKS.is("many(" + what + ")", due[what], city.many(what));
        }
        for (int what : new int[] {-1, 12, MIN, MAX}) {
            CHECKS.refuses("many(" + what + ")", Checks.ARGUMENT, city, () -> city.many(what));
        }
    }

    private static void manyCountsWrongSuspects() {
        Wallcode city = city();
        city.watch(1, 0, 359);
        city.paint(1, 0, 0, 2, 0, 0);
        city.paint(0, 0, 2, 2, 0, 0);
        CHECKS.is("without a known hand", 0, city.many(11));
        city.paint(0, 1, 0, 1, 0, 0);
        CHECKS.is("the layer of 1 is laid to 0", 1, city.many(11));
        city.paint(2, 0, 4, 2, 0, 0);
        CHECKS.is("that of 2, too", 2, city.many(11));
        city.paint(0, 0, 0, 2, 0, 0);
        CHECKS.is("only what is seen", 1, city.many(11));
    }

    private static void meanFameIsNotCut() {
        Wallcode city = new Wallcode();
        city.wall(4, 1, 0, 0);
        city.hand(0, 9, 0, 0);
        city.paint(0, 0, 0, 1, 0, 0);
        CHECKS.isDouble("of one hand", 1.0, city.meanFame());
        city.hand(1, 9, 0, 0);
        CHECKS.isDouble("of two hands", 0.5, city.meanFame());
        city.hand(2, 9, 0, 0);
        CHECKS.isDouble("of three hands", 1.0 / 3.0, city.meanFame());
        city.paint(1, 0, 1, 2, 3, 0);
        CHECKS.isDouble("together", 5.0, city.meanFame());
    }

    private static void questionsRefuseWhatIsNotThere() {
        Wallcode city = city();
        for (int number : new int[] {-1, 9, MIN, MAX}) {
            CHECKS.refuses("ofWall(" + number + ", 0)", Checks.INDEX, city, () -> city.ofWall(number, 0));
            CHECKS.refuses("shows(" + number + ", 0)", Checks.INDEX, city, () -> city.shows(number, 0));
            CHECKS.refuses("ofHand(" + number + ", 0)", Checks.INDEX, city, () -> city.ofHand(number, 0));
            CHECKS.refuses("ofLayer(" + number + ", 0)", Checks.INDEX, city, () -> city.ofLayer(number, 0));
        }
    }
}
