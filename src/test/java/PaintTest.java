/** Promise 6: paint, with minutes, legality, the code and the watch. */
public final class PaintTest {
    private static final int MIN = Integer.MIN_VALUE;
    private static final int MAX = Integer.MAX_VALUE;
    private static final Checks CHECKS = new Checks("PaintTest");

    public static void main(String[] args) {
        minutesAreUsedUp();
        minutesAreRoundedUp();
        aLayerKeepsWhatItIs();
        cellsShowTheLatestLayer();
        legalIsWhatHasThePermitByThen();
        aWrongForEachLayerOfAnother();
        noWrongAgainstItselfOrItsCrew();
        noWrongByAGreaterKind();
        noWrongAgainstAnOldLayer();
        noWrongByALegalLayer();
        aMemorialIsAlwaysWronged();
        caughtInTheWatch();
        notCaughtIfLegal();
        paintRefusesWhatIsNotThere();
        paintRefusesWhatIsNotSo();
        paintRefusesWithoutMinutes();
        thereAreAtMostSixtyLayers();
        CHECKS.end();
    }

    /** Two walls (8 cells of sight 2, 4 cells of sight 3), hands of the crews 0, 1, 2 and 0. */
    private static Wallcode city() {
        Wallcode city = new Wallcode();
        city.wall(8, 2, 0, 0);
        city.wall(4, 3, 1, 0);
        city.hand(0, 9, 3, 6);
        city.hand(1, 9, 4, 5);
        city.hand(2, 9, 8, 2);
        city.hand(0, 9, 0, 9);
        return city;
    }

    private static void minutesAreUsedUp() {
        Wallcode city = new Wallcode();
        city.wall(16, 1, 0, 0);
        city.hand(0, 1, 0, 0);
        city.hand(0, 1, 0, 0);
        int[] costs = {6, 20, 60, 90};
        int left = 360;
        for (int kind = 0; kind < 4; kind++) {
            city.paint(0, 0, 0, 2, kind, 0);
            left -= 2 * costs[kind];
            CHECKS.is("left behind two cells of kind " + kind, left, city.ofHand(0, 1));
            if (kind == 2) {
                city.pass(1);
                left = 360;
                CHECKS.is("a new night", 360, city.ofHand(0, 1));
            }
        }
        CHECKS.is("another hand keeps its own", 360, city.ofHand(1, 1));
    }

    private static void minutesAreRoundedUp() {
        int[] costs = {6, 20, 60, 90};
        for (int speed = 1; speed <= 9; speed++) {
            for (int kind = 0; kind < 4; kind++) {
                Wallcode city = new Wallcode();
                city.wall(4, 1, 0, 0);
                city.hand(0, speed, 0, 0);
                city.paint(0, 0, 0, 3, kind, 0);
                int due = 3 * (costs[kind] / speed + (costs[kind] % speed == 0 ? 0 : 1));
                CHECKS.is("speed " + speed + ", kind " + kind, 360 - due, city.ofHand(0, 1));
            }
        }
    }

    private static void aLayerKeepsWhatItIs() {
        Wallcode city = city();
        city.pass(3);
        CHECKS.is("paint", 0, city.paint(2, 1, 1, 2, 3, -2));
        int[] due = {2, 1, 1, 2, 3, 3, 0, 0, 0, 2, 6, 4, 7 * 2 * (10 + 42 / 10), -1};
        for (int what = 0; what <= 13; what++) {
            CHECKS.is("ofLayer(0, " + what + ")", due[what], city.ofLayer(0, what));
        }
        CHECKS.is("many(3)", 1, city.many(3));
    }

    private static void cellsShowTheLatestLayer() {
        Wallcode city = city();
        city.paint(0, 0, 0, 8, 0, 0);
        city.paint(1, 0, 2, 3, 0, 0);
        city.paint(2, 0, 4, 2, 0, 0);
        int[] due = {0, 0, 1, 1, 2, 2, 0, 0};
        for (int cell = 0; cell < 8; cell++) {
            CHECKS.is("shows(0, " + cell + ")", due[cell], city.shows(0, cell));
        }
        CHECKS.is("the other wall", -1, city.shows(1, 2));
    }

    private static void legalIsWhatHasThePermitByThen() {
        Wallcode city = city();
        city.permit(0, 1, 1);
        city.paint(1, 0, 0, 1, 0, 0);
        city.paint(0, 0, 1, 1, 0, 0);
        city.paint(1, 1, 0, 1, 0, 0);
        CHECKS.is("with the permit", 1, city.ofLayer(0, 6));
        CHECKS.is("of another crew", 0, city.ofLayer(1, 6));
        CHECKS.is("on another wall", 0, city.ofLayer(2, 6));
        city.pass(1);
        city.paint(1, 0, 2, 1, 0, 0);
        CHECKS.is("in its last night", 1, city.ofLayer(3, 6));
        city.pass(1);
        city.paint(1, 0, 3, 1, 0, 0);
        CHECKS.is("behind its last night", 0, city.ofLayer(4, 6));
        CHECKS.is("what was legal stays so", 1, city.ofLayer(0, 6));
        city.permit(0, 0, 9);
        CHECKS.is("what was not, too", 0, city.ofLayer(1, 6));
    }

    private static void aWrongForEachLayerOfAnother() {
        Wallcode city = city();
        city.paint(0, 0, 0, 8, 1, 0);
        CHECKS.is("one layer, in several cells", 1, city.paint(1, 0, 2, 3, 1, 0));
        CHECKS.is("two layers, one of them on both sides", 2, city.paint(2, 0, 0, 8, 0, 0));
        CHECKS.is("wrongs(1, 0)", 1, city.wrongs(1, 0));
        CHECKS.is("wrongs(2, 0)", 1, city.wrongs(2, 0));
        CHECKS.is("wrongs(2, 1)", 1, city.wrongs(2, 1));
        CHECKS.is("wrongs(0, 1)", 0, city.wrongs(0, 1));
        CHECKS.is("what is below is not wronged", 1, city.paint(3, 0, 0, 8, 0, 0));
        CHECKS.is("wrongs(3, 2)", 1, city.wrongs(3, 2));
        CHECKS.is("wrongs(3, 1)", 0, city.wrongs(3, 1));
        city.pass(1);
        city.paint(0, 1, 0, 1, 1, 0);
        city.paint(0, 1, 1, 1, 1, 0);
        city.paint(2, 1, 2, 1, 1, 0);
        CHECKS.is("two layers of one hand are two wrongs", 3, city.paint(1, 1, 0, 4, 1, 0));
        CHECKS.is("wrongs(1, 0) together", 3, city.wrongs(1, 0));
        CHECKS.is("ofHand(1, 7)", 4, city.ofHand(1, 7));
        CHECKS.is("ofHand(0, 8)", 4, city.ofHand(0, 8));
        CHECKS.is("many(6)", 7, city.many(6));
    }

    private static void noWrongAgainstItselfOrItsCrew() {
        Wallcode city = city();
        city.paint(0, 0, 0, 4, 3, 0);
        CHECKS.is("over its own", 0, city.paint(0, 0, 0, 1, 0, 0));
        CHECKS.is("over one of its crew", 0, city.paint(3, 0, 1, 1, 0, 0));
        CHECKS.is("over one of another crew", 1, city.paint(1, 0, 2, 1, 0, 0));
    }

    private static void noWrongByAGreaterKind() {
        for (int below = 0; below < 4; below++) {
            for (int above = 0; above < 4; above++) {
                Wallcode city = city();
                city.paint(0, 0, 0, 4, below, 0);
                CHECKS.is("kind " + above + " over " + below, above <= below ? 1 : 0,
                    city.paint(1, 0, 0, 1, above, 0));
            }
        }
    }

    private static void noWrongAgainstAnOldLayer() {
        Wallcode city = city();
        city.paint(0, 0, 0, 8, 1, 0);
        city.pass(19);
        CHECKS.is("19 nights ago", 1, city.paint(1, 0, 0, 1, 1, 0));
        city.pass(1);
        CHECKS.is("20 nights ago", 0, city.paint(1, 0, 4, 1, 1, 0));
        city.paint(0, 1, 0, 4, 1, 0);
        city.pass(19);
        CHECKS.is("from night 20 to night 39", 1, city.paint(1, 1, 0, 1, 1, 0));
        city.pass(1);
        CHECKS.is("from night 20 to night 40", 0, city.paint(1, 1, 1, 1, 1, 0));
    }

    private static void noWrongByALegalLayer() {
        Wallcode city = city();
        city.paint(0, 0, 0, 8, 1, 0);
        city.permit(0, 1, 0);
        CHECKS.is("legal", 0, city.paint(1, 0, 0, 1, 1, 0));
        CHECKS.is("over a legal one", 1, city.paint(2, 0, 0, 1, 1, 0));
    }

    private static void aMemorialIsAlwaysWronged() {
        Wallcode city = city();
        city.paint(0, 0, 0, 8, 0, 0);
        city.remember(0);
        city.pass(20);
        city.permit(0, 1, 400);
        CHECKS.is("by a legal, greater one, after long", 1, city.paint(1, 0, 0, 1, 3, 0));
        CHECKS.is("by one of its crew", 1, city.paint(3, 0, 1, 1, 3, 0));
        CHECKS.is("not by itself", 0, city.paint(0, 0, 2, 1, 0, 0));
        CHECKS.is("wrongs(3, 0)", 1, city.wrongs(3, 0));
    }

    private static void caughtInTheWatch() {
        int[][] watchesAndDue = {
            {0, 5, 0}, {0, 6, 1}, {6, 6, 1}, {11, 11, 1}, {12, 359, 0}, {11, 359, 1}, {8, 9, 1}, {0, 359, 1},
        };
        for (int[] row : watchesAndDue) {
            Wallcode city = new Wallcode();
            city.wall(8, 2, 0, 0);
            city.wall(8, 2, 0, 0);
            city.hand(0, 1, 0, 0);
            city.watch(0, row[0], row[1]);
            city.paint(0, 1, 0, 1, 0, 0);
            CHECKS.is("not by a wall without a watch", 0, city.ofHand(0, 10));
            city.paint(0, 0, 0, 1, 0, 0);
            String watch = "minutes 6 to 11, watch " + row[0] + " to " + row[1];
            CHECKS.is(watch + ": caught", row[2], city.ofHand(0, 10));
            CHECKS.is(watch + ": known", row[2], city.ofHand(0, 3));
            CHECKS.is(watch + ": fines", 20 * row[2], city.ofHand(0, 2));
            CHECKS.is(watch + ": the layer stays", 1, city.shows(0, 0));
        }
        finesGrowWithTheKind();
    }

    private static void finesGrowWithTheKind() {
        Wallcode city = city();
        city.watch(0, 0, 359);
        int fines = 0;
        for (int kind = 0; kind < 4; kind++) {
            city.paint(0, 0, 0, 2, kind, 0);
            fines += 20 + 10 * kind;
            CHECKS.is("fines behind kind " + kind, fines, city.ofHand(0, 2));
            CHECKS.is("caught behind kind " + kind, kind + 1, city.ofHand(0, 10));
        }
        CHECKS.is("another hand has none", 0, city.ofHand(1, 2));
        city.pass(1);
        CHECKS.is("known from then on", 1, city.ofHand(0, 3));
        CHECKS.is("fines stay", fines, city.ofHand(0, 2));
    }

    private static void notCaughtIfLegal() {
        Wallcode city = city();
        city.watch(0, 0, 359);
        city.permit(0, 0, 400);
        city.paint(0, 0, 0, 2, 3, 0);
        city.paint(3, 0, 0, 2, 3, 0);
        CHECKS.is("legal", 0, city.ofHand(0, 10));
        CHECKS.is("legal, known", 0, city.many(7));
        city.paint(1, 0, 0, 2, 3, 0);
        CHECKS.is("not legal", 50, city.ofHand(1, 2));
    }

    private static void paintRefusesWhatIsNotThere() {
        Wallcode city = city();
        for (int number : new int[] {-1, 4, MIN, MAX}) {
            CHECKS.refuses("hand " + number, Checks.INDEX, city, () -> city.paint(number, 0, -1, 0, 9, 9));
        }
        for (int number : new int[] {-1, 2, MIN, MAX}) {
            CHECKS.refuses("wall " + number, Checks.INDEX, city, () -> city.paint(0, number, -1, 0, 9, 9));
        }
    }

    private static void paintRefusesWhatIsNotSo() {
        Wallcode city = city();
        city.paint(1, 0, 0, 8, 1, 0);
        city.watch(0, 0, 359);
        int[][] bad = {
            {-1, 1, 0, 0}, {0, 0, 0, 0}, {0, -1, 0, 0}, {0, 9, 0, 0}, {8, 1, 0, 0}, {7, 2, 0, 0},
            {MIN, 1, 0, 0}, {MAX, 1, 0, 0}, {0, MAX, 0, 0}, {MAX, MAX, 0, 0}, {1, MAX, 0, 0}, {0, MIN, 0, 0},
            {MIN, MIN, 0, 0}, {0, 1, -1, 0}, {0, 1, 4, 0}, {0, 1, MIN, 0}, {0, 1, MAX, 0},
            {0, 1, 0, -3}, {0, 1, 0, 3}, {0, 1, 0, MIN}, {0, 1, 0, MAX},
        };
        for (int[] b : bad) {
            CHECKS.refuses("paint(0, 0, " + b[0] + ", " + b[1] + ", " + b[2] + ", " + b[3] + ")",
                Checks.ARGUMENT, city, () -> city.paint(0, 0, b[0], b[1], b[2], b[3]));
        }
        CHECKS.is("the edges are painted", 1, city.paint(0, 0, 7, 1, 0, 2));
        CHECKS.is("all cells, too", 1, city.paint(0, 0, 0, 8, 0, -2));
    }

    private static void paintRefusesWithoutMinutes() {
        Wallcode city = new Wallcode();
        city.wall(16, 1, 0, 0);
        city.hand(0, 1, 0, 0);
        city.hand(1, 1, 0, 0);
        city.paint(1, 0, 0, 1, 3, 0);
        city.watch(0, 0, 359);
        CHECKS.refuses("five cells of 90 minutes", Checks.STATE, city, () -> city.paint(0, 0, 0, 5, 3, 0));
        CHECKS.refuses("behind what is not so", Checks.ARGUMENT, city, () -> city.paint(0, 0, 0, 5, 3, 9));
        CHECKS.is("four of them", 1, city.paint(0, 0, 0, 4, 3, 0));
        CHECKS.is("all minutes are used up", 0, city.ofHand(0, 1));
        CHECKS.refuses("without any minute", Checks.STATE, city, () -> city.paint(0, 0, 0, 1, 0, 0));
        CHECKS.is("no wrong of what was refused", 1, city.many(6));
        CHECKS.is("nor was it caught", 1, city.ofHand(0, 10));
    }

    private static void thereAreAtMostSixtyLayers() {
        Wallcode city = new Wallcode();
        city.wall(4, 1, 0, 0);
        city.hand(0, 9, 0, 0);
        city.hand(1, 9, 0, 0);
        for (int layer = 0; layer < 60; layer++) {
            CHECKS.is("layer " + layer, 0, city.paint(0, 0, 0, 1, 0, 0));
            CHECKS.is("is shown", layer, city.shows(0, 0));
        }
        CHECKS.refuses("a layer behind the sixtieth", Checks.STATE, city, () -> city.paint(1, 0, 0, 1, 0, 0));
        CHECKS.refuses("of no hand", Checks.INDEX, city, () -> city.paint(2, 0, 0, 1, 0, 0));
        CHECKS.refuses("of no kind", Checks.ARGUMENT, city, () -> city.paint(1, 0, 0, 1, 4, 0));
        CHECKS.is("many(3)", 60, city.many(3));
        CHECKS.is("it would be a wrong", 1, city.wouldWrong(1, 0, 0, 1, 0));
    }
}
