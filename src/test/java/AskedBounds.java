/** What is asked, at its ends: promises 14 to 21. */
final class AskedBounds {
    private static final int NONE = -1;

    private final Checks checks;

    AskedBounds(Checks checks) {
        this.checks = checks;
    }

    void run() {
        ofWallAtItsEnds();
        ofWallOfNoWall();
        showsOfEachCell();
        ofHandAtItsEnds();
        ofHandWithSixtyLayers();
        ofHandOfNoHand();
        ofLayerAtItsEnds();
        ofLayerOfNoLayer();
        wrongsOfItselfAndOthers();
        wrongsOfNoHand();
        likenessOfNoLayer();
        manyOfNothing();
        manyAtTheirMost();
        manyOfNoWhat();
        meanFames();
    }

    private void ofWallAtItsEnds() {
        checks.stands(14, "0 its WIDTH, 1 SIGHT, 2 OWNER, 3 the CREW with the PERMIT by now (NONE), 4 how many CELLS"
            + " show a LAYER, 5 its EYESORE, 6 LAYERS that are SEEN there");
        checks.stands(14, "Returns that.");
        checks.stands(14, "Throws IllegalArgumentException if what is not 0 to 6");
        int[] bare = {16, 9, 3, NONE, 0, 0, 0};
        checks.ranges("ofWall(5, #), BARE", 0, 6, AskedBounds::sixWalls, (c, v) -> c.ofWall(5, v), v -> bare[v],
            Checks.ARGUMENT);
        for (int cells = 1; cells <= 16; cells++) {
            int many = cells;
            int[] due = {16, 9, 3, 3, cells, 0, cells};
            checks.ranges("ofWall(5, #), " + cells + " LAYERS", 0, 6, () -> painted(many), (c, v) -> c.ofWall(5, v),
                v -> due[v], Checks.ARGUMENT);
        }
        Wallcode city = painted(16);
        city.pass(1);
        checks.is("ofWall(5, 3), the PERMIT ran out", NONE, city.ofWall(5, 3));
        checks.is("ofWall(5, 5), the PERMIT ran out", 144, city.ofWall(5, 5));
        city.paint(1, 5, 0, 16, 0, 0);
        checks.is("ofWall(5, 4), one LAYER in all CELLS", 16, city.ofWall(5, 4));
        checks.is("ofWall(5, 6), one LAYER in all CELLS", 1, city.ofWall(5, 6));
        checks.is("ofWall(4, 4), the WALL beside it", 0, city.ofWall(4, 4));
        checks.is("ofWall(4, 6), the WALL beside it", 0, city.ofWall(4, 6));
        city.clear(5);
        checks.is("ofWall(5, 4), BARE again", 0, city.ofWall(5, 4));
        checks.is("ofWall(5, 6), BARE again", 0, city.ofWall(5, 6));
    }

    private static Wallcode sixWalls() {
        Wallcode city = Cities.withWalls(5);
        city.wall(16, 9, 3, 0);
        city.hand(3, 9, 0, 0);
        city.hand(0, 9, 0, 0);
        return city;
    }

    /** So many LAYERS of one CELL each on the WALL 5, LEGAL in NIGHT 0. */
    private static Wallcode painted(int layers) {
        Wallcode city = sixWalls();
        city.permit(5, 3, 0);
        for (int cell = 0; cell < layers; cell++) {
            city.paint(0, 5, cell, 1, 0, 0);
        }
        return city;
    }

    private void ofWallOfNoWall() {
        checks.stands(14, "Throws IndexOutOfBoundsException if there is no such WALL");
        for (int walls : new int[] {0, 1, 5, 6}) {
            Wallcode city = Cities.withWalls(walls);
            for (int wall : Ends.notBelow(walls)) {
                checks.refuses("ofWall(" + wall + ", 0)", Checks.INDEX, city, () -> city.ofWall(wall, 0));
                checks.refuses("ofWall(" + wall + ", 6)", Checks.INDEX, city, () -> city.ofWall(wall, 6));
                checks.refuses("ofWall(" + wall + ", 7)", Checks.INDEX, city, () -> city.ofWall(wall, 7));
                checks.refuses("ofWall(" + wall + ", -1)", Checks.INDEX, city, () -> city.ofWall(wall, -1));
            }
        }
    }

    private void showsOfEachCell() {
        checks.stands(15, "Returns the LAYER that it shows (NONE).");
        checks.stands(15, "Throws IndexOutOfBoundsException if there is no such WALL, or CELL of it");
        for (int width = 4; width <= 16; width++) {
            int w = width;
            checks.ranges("shows(0, #) with WIDTH " + width, 0, width - 1, () -> firstAndLast(w),
                (c, v) -> c.shows(0, v), v -> v == 0 ? 0 : v == w - 1 ? 1 : NONE, Checks.INDEX);
        }
        for (int walls : new int[] {0, 1, 5, 6}) {
            Wallcode city = Cities.withWalls(walls);
            for (int wall : Ends.notBelow(walls)) {
                checks.refuses("shows(" + wall + ", 0)", Checks.INDEX, city, () -> city.shows(wall, 0));
                checks.refuses("shows(" + wall + ", -1)", Checks.INDEX, city, () -> city.shows(wall, -1));
            }
        }
        Wallcode city = Cities.withWalls(6);
        checks.is("shows(0, 3) of WIDTH 4", NONE, city.shows(0, 3));
        checks.refuses("shows(0, 4) of WIDTH 4, beside one of WIDTH 5", Checks.INDEX, city, () -> city.shows(0, 4));
        checks.is("shows(1, 4) of WIDTH 5", NONE, city.shows(1, 4));
        checks.is("shows(0, 11), the LAYER 59", 59, Cities.withLayers(60).shows(0, 11));
    }

    private static Wallcode firstAndLast(int width) {
        Wallcode city = new Wallcode();
        city.wall(width, 1, 0, 0);
        city.hand(0, 9, 0, 0);
        city.paint(0, 0, 0, 1, 0, 0);
        city.paint(0, 0, width - 1, 1, 0, 0);
        return city;
    }

    private void ofHandAtItsEnds() {
        checks.stands(16, "0 its CREW, 1 minutes that are left, 2 FINES, 3 1 if it is KNOWN, otherwise 0, 4 its FAME,"
            + " 5 its LAYERS, 6 those that are SEEN, 7 WRONGS that it did ever, 8 that were done to it,"
            + " 9 what it is owed, 10 how often it was CAUGHT");
        checks.stands(16, "Returns that.");
        checks.stands(16, "Throws IllegalArgumentException if what is not 0 to 10");
        int[] first = {3, 360, 0, 0, 0, 0, 0, 0, 0, 0, 0};
        checks.ranges("ofHand(7, #) at first", 0, 10, () -> Cities.withHands(8), (c, v) -> c.ofHand(7, v),
            v -> first[v], Checks.ARGUMENT);
        int[] last = {3, 200, 50, 1, 16 * 7, 3, 1, 2, 1, 35, 1};
        checks.ranges("ofHand(7, #) behind it all", 0, 10, AskedBounds::eightHands, (c, v) -> c.ofHand(7, v),
            v -> last[v], Checks.ARGUMENT);
    }

    /** HAND 7 did two WRONGS and suffered one, was CAUGHT once, and is owed for one CELL. */
    private static Wallcode eightHands() {
        Wallcode city = new Wallcode();
        for (int hand = 0; hand < 8; hand++) {
            city.hand(hand % 4, 9, 0, 0);
        }
        city.wall(16, 1, 0, 0);
        city.permit(0, 3, 0);
        city.paint(7, 0, 0, 1, 3, 0);
        city.clear(0);
        city.paint(7, 0, 0, 2, 0, 0);
        city.paint(0, 0, 0, 2, 0, 0);
        city.paint(0, 0, 2, 1, 3, 0);
        city.pass(1);
        city.watch(0, 0, 0);
        city.paint(1, 0, 8, 8, 3, 0);
        city.paint(7, 0, 0, 16, 3, 0);
        return city;
    }

    private void ofHandWithSixtyLayers() {
        checks.stands(16, "5 its LAYERS, 6 those that are SEEN");
        Wallcode city = Cities.withLayers(60);
        checks.is("ofHand(0, 5)", 60, city.ofHand(0, 5));
        checks.is("ofHand(0, 6)", 16, city.ofHand(0, 6));
        checks.is("ofHand(1, 5)", 0, city.ofHand(1, 5));
        city.clear(0);
        checks.is("ofHand(0, 5), BARE", 60, city.ofHand(0, 5));
        checks.is("ofHand(0, 6), BARE", 0, city.ofHand(0, 6));
    }

    private void ofHandOfNoHand() {
        checks.stands(16, "Throws IndexOutOfBoundsException if there is no such HAND");
        for (int hands : new int[] {0, 1, 7, 8}) {
            Wallcode city = Cities.withHands(hands);
            for (int hand : Ends.notBelow(hands)) {
                for (int what : new int[] {0, 10, 11, -1, Ends.MIN, Ends.MAX}) {
                    checks.refuses("ofHand(" + hand + ", " + what + ")", Checks.INDEX, city,
                        () -> city.ofHand(hand, what));
                }
            }
        }
    }

    private void ofLayerAtItsEnds() {
        checks.stands(17, "0 its HAND, 1 WALL, 2 first CELL, 3 how many CELLS WIDE, 4 KIND, 5 NIGHT, 6 1 if it is LEGAL,"
            + " otherwise 0, 7 1 if WAIVED, 8 1 if a MEMORIAL, 9 in how many CELLS it is SEEN, 10 the SLANT that it"
            + " shows, 11 the ROUND, 12 its PRICE, 13 its SUSPECT");
        checks.stands(17, "Returns that.");
        checks.stands(17, "Throws IllegalArgumentException if what is not 0 to 13");
        int[] least = {0, 0, 0, 1, 0, 0, 0, 0, 0, 1, 3, 6, 10, NONE};
        checks.ranges("ofLayer(0, #), the first one", 0, 13, () -> Cities.withLayers(1), (c, v) -> c.ofLayer(0, v),
            v -> least[v], Checks.ARGUMENT);
        int[] most = {7, 5, 15, 1, 3, 400, 1, 1, 1, 1, 11, -2, 7 * 16, 7};
        checks.ranges("ofLayer(59, #), the last one", 0, 13, AskedBounds::sixtyLayers, (c, v) -> c.ofLayer(59, v),
            v -> most[v], Checks.ARGUMENT);
        Wallcode city = sixtyLayers();
        city.clear(5);
        int[] due = {7, 5, 15, 1, 3, 400, 1, 1, 1, 0, 11, -2, 0, 7};
        for (int what = 0; what <= 13; what++) {
            checks.is("ofLayer(59, " + what + "), not SEEN", due[what], city.ofLayer(59, what));
        }
    }

    /** 59 TAGS of other HANDS, and in NIGHT 400 a BURNER of the KNOWN HAND 7 on the last CELL of the WALL 5. */
    private static Wallcode sixtyLayers() {
        Wallcode city = Cities.withWalls(5);
        city.wall(16, 9, 3, 0);
        for (int hand = 0; hand < 7; hand++) {
            city.hand(hand % 4, 9, 5, 5);
        }
        city.hand(3, 9, 9, 0);
        for (int layer = 0; layer < 58; layer++) {
            city.paint(layer % 7, layer % 6, 0, 4, 0, 0);
        }
        Cities.passTo(city, 400);
        city.watch(0, 0, 0);
        city.paint(7, 0, 0, 1, 0, 0);
        city.permit(5, 3, 400);
        city.paint(7, 5, 15, 1, 3, 2);
        city.waive(59);
        city.remember(59);
        return city;
    }

    private void ofLayerOfNoLayer() {
        checks.stands(17, "Throws IndexOutOfBoundsException if there is no such LAYER");
        for (int layers : new int[] {0, 1, 59, 60}) {
            Wallcode city = Cities.withLayers(layers);
            for (int layer : Ends.notBelow(layers)) {
                for (int what : new int[] {0, 13, 14, -1, Ends.MIN, Ends.MAX}) {
                    checks.refuses("ofLayer(" + layer + ", " + what + ")", Checks.INDEX, city,
                        () -> city.ofLayer(layer, what));
                }
            }
        }
    }

    private void wrongsOfItselfAndOthers() {
        checks.stands(18, "Returns how many WRONGS the first one did to the other one.");
        Wallcode city = new Wallcode();
        city.wall(16, 1, 0, 0);
        for (int hand = 0; hand < 8; hand++) {
            city.hand(hand % 2, 9, 0, 0);
        }
        for (int one = 0; one < 8; one++) {
            for (int other = 0; other < 8; other++) {
                checks.is("at first", 0, city.wrongs(one, other));
            }
        }
        city.paint(0, 0, 0, 1, 0, 0);
        for (int times = 1; times <= 29; times++) {
            city.paint(7, 0, 0, 1, 0, 0);
            checks.is("wrongs(7, 0)", times, city.wrongs(7, 0));
            checks.is("wrongs(0, 7)", times - 1, city.wrongs(0, 7));
            city.paint(0, 0, 0, 1, 0, 0);
            checks.is("wrongs(0, 7)", times, city.wrongs(0, 7));
        }
        checks.is("wrongs(0, 0)", 0, city.wrongs(0, 0));
        checks.is("wrongs(7, 7)", 0, city.wrongs(7, 7));
        checks.is("ofHand(7, 7)", 29, city.ofHand(7, 7));
        checks.is("ofHand(7, 8)", 29, city.ofHand(7, 8));
        checks.is("many(6)", 58, city.many(6));
        city.clear(0);
        Cities.passTo(city, 400);
        checks.is("WRONGS that it did ever", 29, city.wrongs(7, 0));
    }

    private void wrongsOfNoHand() {
        checks.stands(18, "Throws IndexOutOfBoundsException if there is no such HAND");
        for (int hands : new int[] {0, 1, 7, 8}) {
            Wallcode city = Cities.withHands(hands);
            for (int hand : Ends.notBelow(hands)) {
                for (int other : new int[] {0, hands - 1, hand}) {
                    checks.refuses("wrongs(" + hand + ", " + other + ")", Checks.INDEX, city,
                        () -> city.wrongs(hand, other));
                    checks.refuses("wrongs(" + other + ", " + hand + ")", Checks.INDEX, city,
                        () -> city.wrongs(other, hand));
                }
            }
        }
    }

    private void likenessOfNoLayer() {
        checks.stands(19, "Throws IndexOutOfBoundsException if there is no such LAYER");
        for (int layers : new int[] {0, 1, 59, 60}) {
            Wallcode city = Cities.withLayers(layers);
            for (int layer : Ends.notBelow(layers)) {
                for (int other : new int[] {0, layers - 1, layer}) {
                    checks.refuses("likeness(" + layer + ", " + other + ")", Checks.INDEX, city,
                        () -> city.likeness(layer, other));
                    checks.refuses("likeness(" + other + ", " + layer + ")", Checks.INDEX, city,
                        () -> city.likeness(other, layer));
                }
            }
        }
        checks.is("likeness(59, 0)", 20, Cities.withLayers(60).likeness(59, 0));
    }

    private void manyOfNothing() {
        checks.stands(20, "0 NIGHT, 1 WALLS, 2 HANDS, 3 LAYERS, 4 those that are SEEN, 5 COINS, 6 all WRONGS,"
            + " 7 KNOWN HANDS, 8 FINES that are not paid, 9 what HANDS are owed together, 10 what all OWNERS got for"
            + " LAYERS that were sold, 11 LAYERS that are SEEN and whose SUSPECT is another HAND (not NONE)");
        checks.stands(20, "Returns that.");
        int[] due = {0, 0, 0, 0, 0, 30, 0, 0, 0, 0, 0, 0};
        for (int what = 0; what <= 11; what++) {
            checks.is("many(" + what + ") of a new city", due[what], new Wallcode().many(what));
        }
    }

    private void manyAtTheirMost() {
        checks.stands(20, "0 NIGHT, 1 WALLS, 2 HANDS, 3 LAYERS, 4 those that are SEEN, 5 COINS, 6 all WRONGS,"
            + " 7 KNOWN HANDS, 8 FINES that are not paid, 9 what HANDS are owed together, 10 what all OWNERS got for"
            + " LAYERS that were sold, 11 LAYERS that are SEEN and whose SUSPECT is another HAND (not NONE)");
        Wallcode city = new Wallcode();
        for (int wall = 0; wall < 6; wall++) {
            city.wall(16, 1, 0, 0);
            city.watch(wall, 0, 359);
        }
        for (int hand = 0; hand < 8; hand++) {
            city.hand(hand % 4, 9, 5, 5);
        }
        Cities.passTo(city, 400);
        for (int layer = 0; layer < 60; layer++) {
            city.paint(layer % 8, layer / 10, layer % 10, 1, 0, 0);
        }
        int ofHandZero = 8;
        int[] due = {400, 6, 8, 60, 60, 2030, 0, 8, 60 * 20, 0, 0, 60 - ofHandZero};
        for (int what = 0; what <= 11; what++) {
            checks.is("many(" + what + ") with all that there can be", due[what], city.many(what));
        }
        city.sell(59);
        checks.is("many(4), one sold", 59, city.many(4));
        checks.is("many(10), one sold", 10, city.many(10));
        checks.is("many(11), one of HAND 3 sold", 59 - ofHandZero, city.many(11));
        for (int hand = 0; hand < 8; hand++) {
            city.pay(hand);
        }
        checks.is("many(8), all paid", 0, city.many(8));
        checks.is("many(7), all paid", 8, city.many(7));
        checks.is("many(3), one sold", 60, city.many(3));
    }

    private void manyOfNoWhat() {
        checks.stands(20, "Throws IllegalArgumentException if what is not 0 to 11");
        int[] due = {0, 1, 2, 60, 16, 30, 0, 0, 0, 0, 0, 0};
        checks.ranges("many(#)", 0, 11, () -> Cities.withLayers(60), (c, v) -> c.many(v), v -> due[v],
            Checks.ARGUMENT);
        Wallcode city = new Wallcode();
        for (int what : Ends.notBelow(12)) {
            checks.refuses("many(" + what + ") of a new city", Checks.ARGUMENT, city, () -> city.many(what));
        }
    }

    private void meanFames() {
        checks.stands(21, "Returns the mean FAME of all HANDS, not cut; 0 without any.");
        checks.isDouble("without any", 0.0, new Wallcode().meanFame());
        checks.isDouble("with WALLS alone", 0.0, Cities.withWalls(6).meanFame());
        for (int hands = 1; hands <= 8; hands++) {
            Wallcode city = new Wallcode();
            city.wall(16, 1, 0, 0);
            for (int hand = 0; hand < hands; hand++) {
                city.hand(0, 9, 0, 0);
            }
            checks.isDouble(hands + " HANDS without FAME", 0.0, city.meanFame());
            for (int fame = 1; fame <= 16; fame++) {
                city.paint(fame % hands, 0, fame - 1, 1, 0, 0);
                checks.isDouble("FAME " + fame + " of " + hands + " HANDS", (double) fame / hands, city.meanFame());
            }
        }
    }
}
