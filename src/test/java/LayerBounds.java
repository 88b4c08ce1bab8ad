/** What section 2 of 'Terms' says of LAYERS, minutes, THE CODE and who is CAUGHT, at its ends: promise 6. */
final class LayerBounds {
    private static final int NONE = -1;
    private static final int[] WILD = {Ends.MIN, Ends.MIN + 1, Ends.MIN + 16, Ends.MAX - 16, Ends.MAX - 1, Ends.MAX};

    private final Checks checks;

    LayerBounds(Checks checks) {
        this.checks = checks;
    }

    void run() {
        thereAreAtMostSixty();
        sixtyAlsoIfNoneIsSeen();
        whatALayerIs();
        wobbles();
        whatACellShows();
        seenInNoneToSixteenCells();
        fromAndWide();
        ofNoHandOrWall();
        minutesJustEnough();
        minutesWithoutAny();
        minutesOneBehindTheOther();
        legalByThen();
        theCodeInAllItsCases();
        goesOverWhatItCovers();
        oneForEachLayer();
        oneForEachHandOfEight();
        againstOtherCrews();
        againstNoSmallerKind();
        againstWhatIsLessThanTwentyNightsOld();
        notByWhatIsLegal();
        againstMemorials();
        caughtAtTheEndsOfItsMinutes();
        notCaughtElsewhere();
        finesAndKnown();
        finesOfSixtyLayers();
        theLayerStays();
    }

    private void thereAreAtMostSixty() {
        checks.stands(6, "LAYERS: at most 60, numbered from 0");
        checks.stands(6, "PAINTS.");
        for (int layers : new int[] {0, 1, 58, 59}) {
            Wallcode city = Cities.withLayers(layers);
            checks.is("many(3)", layers, city.many(3));
            for (int layer : Ends.notBelow(layers)) {
                checks.refuses("ofLayer(" + layer + ", 0)", Checks.INDEX, city, () -> city.ofLayer(layer, 0));
            }
            checks.is("one LAYER more", layers >= 16 ? 1 : 0, city.paint(1, 0, 15, 1, 0, 0));
            checks.is("its number", layers, city.shows(0, 15));
            checks.is("its HAND", 1, city.ofLayer(layers, 0));
            checks.is("LAYERS", layers + 1, city.many(3));
        }
        checks.stands(6, "Throws IllegalStateException if the HAND has not so many minutes left,"
            + " or there are 60 LAYERS");
        Wallcode city = Cities.withLayers(60);
        checks.refuses("with 60 LAYERS", Checks.STATE, city, () -> city.paint(0, 0, 0, 1, 0, 0));
        checks.refuses("by another HAND", Checks.STATE, city, () -> city.paint(1, 0, 0, 16, 0, 2));
        checks.refuses("and without minutes", Checks.STATE, city, () -> city.paint(1, 0, 0, 16, 3, 2));
        checks.refuses("of no KIND", Checks.ARGUMENT, city, () -> city.paint(1, 0, 0, 1, 4, 0));
        checks.refuses("of no HAND", Checks.INDEX, city, () -> city.paint(2, 0, 0, 1, 4, 0));
        checks.refuses("on no WALL", Checks.INDEX, city, () -> city.paint(1, 1, 0, 1, 4, 0));
        checks.is("many(3)", 60, city.many(3));
        checks.is("the last one is shown", 59, city.shows(0, 59 % 16));
    }

    private void sixtyAlsoIfNoneIsSeen() {
        checks.stands(6, "LAYERS: at most 60, numbered from 0");
        Wallcode city = Cities.withLayers(60);
        city.clear(0);
        city.pass(1);
        checks.is("SEEN", 0, city.many(4));
        checks.refuses("with 60 LAYERS, none SEEN", Checks.STATE, city, () -> city.paint(0, 0, 0, 1, 0, 0));
        city.wall(4, 1, 0, 0);
        city.hand(2, 1, 0, 0);
        checks.refuses("by a new HAND on a new WALL", Checks.STATE, city, () -> city.paint(2, 1, 0, 1, 0, 0));
    }

    private void whatALayerIs() {
        checks.stands(6, "each of a HAND, on a WALL, from a CELL on so many CELLS WIDE, of a KIND,"
            + " with a WOBBLE (-2 to 2), of the NIGHT in which it was painted, LEGAL or not, WAIVED or not,"
            + " a MEMORIAL or not (the last two not at first)");
        int[][] rows = {
            {0, 0, 0, 4, 0, 0}, {0, 0, 3, 1, 3, 0}, {7, 5, 0, 9, 0, 400}, {7, 5, 8, 1, 3, 400}, {3, 2, 1, 3, 1, 1},
        };
        for (int[] r : rows) {
            Wallcode city = Cities.withWalls(6);
            for (int hand = 0; hand < 8; hand++) {
                city.hand(hand % 4, 9, 5, 5);
            }
            Cities.passTo(city, r[5]);
            city.paint(r[0], r[1], r[2], r[3], r[4], -2);
            int[] due = {r[0], r[1], r[2], r[3], r[4], r[5], 0, 0, 0, r[3], 3, 7};
            for (int what = 0; what < due.length; what++) {
                checks.is(Calls.text(Calls.PAINT, r) + ", ofLayer(0, " + what + ")", due[what],
                    city.ofLayer(0, what));
            }
        }
    }

    private void wobbles() {
        checks.stands(6, "with a WOBBLE (-2 to 2)");
        checks.ranges("paint(0, 0, 0, 1, 0, #)", -2, 2, Cities::small, (c, v) -> c.paint(0, 0, 0, 1, 0, v),
            v -> 0, Checks.ARGUMENT);
        for (int wobble = -2; wobble <= 2; wobble++) {
            Wallcode city = Cities.small();
            city.paint(0, 0, 0, 1, 0, wobble);
            checks.is("SLANT 3 with WOBBLE " + wobble, 3 + wobble, city.ofLayer(0, 10));
            checks.is("ROUND 6 with WOBBLE " + wobble, 6 - wobble, city.ofLayer(0, 11));
        }
    }

    private void whatACellShows() {
        checks.stands(6, "What a CELL shows is the latest LAYER that was painted there, if nothing was taken off"
            + " there since (then it is BARE, as at first).");
        Wallcode city = new Wallcode();
        city.wall(16, 1, 0, 20);
        city.hand(0, 9, 3, 6);
        checks.is("as at first", NONE, city.shows(0, 0));
        int layer = 0;
        for (int way = 0; way < 4; way++) {
            city.paint(0, 0, 0, 16, 0, 0);
            checks.is("the LAYER painted there", layer, city.shows(0, 0));
            city.paint(0, 0, 0, 1, 0, 0);
            checks.is("the latest one", layer + 1, city.shows(0, 0));
            checks.is("beside it", layer, city.shows(0, 1));
            takeOff(city, way, layer + 1);
            checks.is("taken off in way " + way + ", not the one below", NONE, city.shows(0, 0));
            city.paint(0, 0, 0, 1, 0, 0);
            checks.is("painted since", layer + 2, city.shows(0, 0));
            city.clear(0);
            layer += 3;
        }
    }

    /** By a BUFF, by CLEARING, by SELLING, by a CLEANING. */
    private void takeOff(Wallcode city, int way, int layer) {
        if (way == 0) {
            city.buff(0);
        } else if (way == 1) {
            city.clear(0);
        } else if (way == 2) {
            city.sell(layer);
        } else {
            Cities.passTo(city, 20);
        }
    }

    private void seenInNoneToSixteenCells() {
        checks.stands(17, "A LAYER is SEEN in so many CELLS that show it.");
        Wallcode city = Cities.small();
        city.paint(0, 0, 0, 16, 0, 0);
        checks.is("in all CELLS", 16, city.ofLayer(0, 9));
        for (int cell = 15; cell >= 0; cell--) {
            city.paint(0, 0, cell, 1, 0, 0);
            checks.is("in those that are left", cell, city.ofLayer(0, 9));
            checks.is("the new one", 1, city.ofLayer(16 - cell, 9));
            checks.is("LAYERS that are SEEN", cell > 0 ? 17 - cell : 16, city.many(4));
        }
        checks.is("WIDE as before", 16, city.ofLayer(0, 3));
    }

    private void fromAndWide() {
        checks.stands(6, "Throws IllegalArgumentException if from is below 0, wide below 1, one of the CELLS is"
            + " not there, kind not 0 to 3, or wobble not -2 to 2");
        for (int width : new int[] {4, 5, 15, 16}) {
            for (int from = -2; from <= width + 1; from++) {
                for (int wide = -1; wide <= width + 2; wide++) {
                    painted(width, from, wide);
                }
            }
            for (int wild : WILD) {
                for (int other : new int[] {0, 1, width - 1, width, Ends.MIN, Ends.MAX, -wild, width - wild}) {
                    painted(width, wild, other);
                    painted(width, other, wild);
                }
            }
        }
    }

    private void painted(int width, int from, int wide) {
        Wallcode city = new Wallcode();
        city.wall(width, 1, 0, 0);
        city.hand(0, 9, 0, 0);
        String text = Calls.text(Calls.PAINT, 0, 0, from, wide, 0, 0) + " with WIDTH " + width;
        if (from >= 0 && wide >= 1 && (long) from + wide <= width) {
            checks.is(text, 0, city.paint(0, 0, from, wide, 0, 0));
            for (int cell = 0; cell < width; cell++) {
                boolean isCovered = from <= cell && cell < from + wide;
                checks.is(text + ", shows(0, " + cell + ")", isCovered ? 0 : NONE, city.shows(0, cell));
            }
        } else {
            checks.refuses(text, Checks.ARGUMENT, city, () -> city.paint(0, 0, from, wide, 0, 0));
        }
    }

    private void ofNoHandOrWall() {
        checks.stands(6, "Throws IndexOutOfBoundsException if there is no such HAND, or WALL");
        for (int many : new int[] {0, 1, 6}) {
            Wallcode city = Cities.withWalls(many);
            for (int hand = 0; hand < many; hand++) {
                city.hand(0, 9, 0, 0);
            }
            for (int number : Ends.notBelow(many)) {
                checks.refuses("paint(" + number + ", 0, ..)", Checks.INDEX, city,
                    () -> city.paint(number, 0, 0, 1, 0, 0));
                checks.refuses("paint(0, " + number + ", ..)", Checks.INDEX, city,
                    () -> city.paint(0, number, 0, 1, 0, 0));
                checks.refuses("paint(0, " + number + ", -1, ..)", Checks.INDEX, city,
                    () -> city.paint(0, number, -1, 0, 4, 3));
            }
        }
        Wallcode city = Cities.withWalls(6);
        checks.refuses("with WALLS alone", Checks.INDEX, city, () -> city.paint(0, 0, 0, 1, 0, 0));
        Wallcode other = Cities.withHands(8);
        checks.refuses("with HANDS alone", Checks.INDEX, other, () -> other.paint(0, 0, 0, 1, 0, 0));
    }

    private void minutesJustEnough() {
        checks.stands(6, "To PAINT takes the minutes of all its CELLS together; the HAND has to have as many left");
        int[][] speedKindUsedWide = {
            {9, 0, 344, 16}, {9, 0, 345, 15}, {9, 0, 358, 2}, {9, 0, 359, 1}, {9, 3, 350, 1}, {9, 3, 200, 16},
            {9, 2, 353, 1}, {9, 2, 339, 3}, {9, 1, 357, 1}, {9, 1, 312, 16},
        };
        for (int[] row : speedKindUsedWide) {
            Wallcode city = Cities.small();
            Cities.useUp(city, 0, 0, row[2]);
            int kind = row[1];
            int wide = row[3];
            String text = "KIND " + kind + " behind " + row[2] + " minutes";
            if (wide < 16) {
                checks.refuses(text + ", a CELL more", Checks.STATE, city,
                    () -> city.paint(0, 0, 0, wide + 1, kind, 0));
            }
            checks.is(text + ", just enough", 0, city.paint(0, 0, 0, wide, kind, 0));
            checks.is(text + ", left", 0, city.ofHand(0, 1));
        }
        for (int used = 313; used <= 360; used++) {
            Wallcode city = Cities.small();
            Cities.useUp(city, 0, 0, used);
            checks.refuses("16 THROW-UPS behind " + used + " minutes", Checks.STATE, city,
                () -> city.paint(0, 0, 0, 16, 1, 0));
        }
        slowHands();
    }

    private void slowHands() {
        Wallcode city = Cities.small();
        city.hand(1, 1, 0, 0);
        checks.refuses("16 BURNERS, 1440 minutes", Checks.STATE, city, () -> city.paint(1, 0, 0, 16, 3, 0));
        checks.refuses("5 BURNERS, 450 minutes", Checks.STATE, city, () -> city.paint(1, 0, 0, 5, 3, 0));
        checks.refuses("7 PIECES, 420 minutes", Checks.STATE, city, () -> city.paint(1, 0, 0, 7, 2, 0));
        checks.is("4 BURNERS, 360 minutes", 0, city.paint(1, 0, 0, 4, 3, 0));
        checks.is("left", 0, city.ofHand(1, 1));
        city.pass(1);
        checks.is("3 BURNERS, 270 minutes", 0, city.paint(1, 0, 0, 3, 3, 0));
        checks.refuses("2 PIECES, 120 of 90 minutes", Checks.STATE, city, () -> city.paint(1, 0, 0, 2, 2, 0));
        checks.is("1 BURNER, 90 of 90 minutes", 0, city.paint(1, 0, 0, 1, 3, 0));
    }

    private void minutesWithoutAny() {
        checks.stands(6, "Throws IllegalStateException if the HAND has not so many minutes left,"
            + " or there are 60 LAYERS");
        Wallcode city = Cities.small();
        city.hand(0, 9, 0, 0);
        Cities.useUp(city, 0, 0, 360);
        for (int kind = 0; kind <= 3; kind++) {
            int painted = kind;
            checks.refuses("KIND " + kind + " without minutes", Checks.STATE, city,
                () -> city.paint(0, 0, 0, 1, painted, 0));
        }
        checks.refuses("of no CELL", Checks.ARGUMENT, city, () -> city.paint(0, 0, 16, 1, 0, 0));
        checks.refuses("on no WALL", Checks.INDEX, city, () -> city.paint(0, 1, 16, 1, 0, 0));
        checks.is("by another HAND", 0, city.paint(1, 0, 0, 1, 0, 0));
        city.pass(1);
        checks.is("in the next NIGHT", 0, city.paint(0, 0, 0, 1, 0, 0));
    }

    private void minutesOneBehindTheOther() {
        checks.stands(6, "they are used up, one behind the other from what was used up in this NIGHT on");
        int[][] kinds = {{0, 0}, {0, 3}, {3, 0}, {1, 2}, {3, 3}};
        int[] cost = {1, 3, 7, 10};
        for (int[] k : kinds) {
            int first = 2 * cost[k[0]];
            int behind = first + 3 * cost[k[1]];
            for (int minute : new int[] {0, first - 1, first, behind - 1, behind}) {
                Wallcode city = Cities.small();
                city.wall(4, 1, 0, 0);
                city.watch(0, minute, minute);
                city.watch(1, minute, minute);
                city.paint(0, 1, 0, 2, k[0], 0);
                String text = "KINDS " + k[0] + " and " + k[1] + ", WATCH in minute " + minute;
                int caughtFirst = minute < first ? 1 : 0;
                checks.is(text + ", the first", caughtFirst, city.ofHand(0, 10));
                city.paint(0, 0, 0, 3, k[1], 0);
                checks.is(text + ", both", minute < behind ? 1 : 0, city.ofHand(0, 10));
                checks.is(text + ", left", 360 - behind, city.ofHand(0, 1));
            }
        }
    }

    private void legalByThen() {
        checks.stands(6, "The LAYER is LEGAL, if the CREW has the PERMIT of that WALL by then.");
        for (int upTo : new int[] {10, 11, 400}) {
            Wallcode city = Cities.small(10);
            city.wall(4, 1, 0, 0);
            city.hand(1, 9, 0, 0);
            city.paint(0, 0, 0, 1, 0, 0);
            city.permit(0, 0, upTo);
            city.paint(0, 0, 1, 1, 0, 0);
            city.paint(1, 0, 2, 1, 0, 0);
            city.paint(0, 1, 0, 1, 0, 0);
            city.pass(1);
            city.paint(0, 0, 3, 1, 0, 0);
            city.permit(0, 1, 400);
            city.paint(0, 0, 4, 1, 0, 0);
            int[] due = {0, 1, 0, 0, upTo >= 11 ? 1 : 0, 0};
            for (int layer = 0; layer < due.length; layer++) {
                checks.is("PERMIT up to " + upTo + ", LEGAL " + layer, due[layer], city.ofLayer(layer, 6));
            }
        }
    }

    private void theCodeInAllItsCases() {
        checks.stands(6, "Returns how many WRONGS it does.");
        for (int nights : new int[] {0, 1, 19, 20, 21, 400}) {
            for (int below = 0; below <= 3; below++) {
                for (int above = 0; above <= 3; above++) {
                    for (int cases = 0; cases < 12; cases++) {
                        wrongsOfOneCase(nights, below, above, cases / 4, cases % 2 == 1, cases % 4 >= 2);
                    }
                }
            }
        }
    }

    /** Whose: 0 of the HAND itself, 1 of another HAND of its CREW, 2 of a HAND of another CREW. */
    private void wrongsOfOneCase(int nights, int below, int above, int whose, boolean memorial, boolean legal) {
        Wallcode city = Cities.small();
        city.hand(0, 9, 1, 1);
        city.hand(1, 9, 2, 2);
        city.paint(whose, 0, 4, 3, below, 0);
        if (memorial) {
            city.remember(0);
        }
        Cities.passTo(city, nights);
        if (legal) {
            city.permit(0, 0, 400);
        }
        boolean code = whose == 2 && above <= below && nights < 20 && !legal;
        int due = whose != 0 && (memorial || code) ? 1 : 0;
        String text = "KIND " + above + " over " + below + ", " + nights + " NIGHTS later, case " + whose
            + (memorial ? ", a MEMORIAL" : "") + (legal ? ", LEGAL" : "");
        checks.is(text + ", wouldWrong", due, city.wouldWrong(0, 0, 6, 2, above));
        checks.is(text + ", paint", due, city.paint(0, 0, 6, 2, above, 0));
        checks.is(text + ", wrongs", due, city.wrongs(0, whose));
        checks.is(text + ", back", whose == 0 ? due : 0, city.wrongs(whose, 0));
        checks.is(text + ", all", due, city.many(6));
    }

    private void goesOverWhatItCovers() {
        checks.stands(6, "THE CODE: it goes over each LAYER that is shown by a CELL that it covers.");
        for (int from = 0; from < 16; from++) {
            for (int wide = 1; wide <= 16 - from; wide++) {
                Wallcode city = Cities.small();
                city.hand(1, 9, 0, 0);
                city.paint(0, 0, 5, 3, 0, 0);
                boolean isOver = from <= 7 && from + wide > 5;
                checks.is(wide + " CELLS from " + from + " on, over 5 to 7", isOver ? 1 : 0,
                    city.paint(1, 0, from, wide, 0, 0));
            }
        }
        Wallcode city = Cities.small();
        city.hand(1, 9, 0, 0);
        city.hand(2, 9, 0, 0);
        checks.is("over BARE CELLS", 0, city.paint(0, 0, 0, 16, 0, 0));
        checks.is("over all of it", 1, city.paint(1, 0, 0, 16, 0, 0));
        checks.is("not over what is not shown any more", 1, city.paint(2, 0, 0, 16, 0, 0));
        checks.is("against the one that was not shown", 0, city.wrongs(2, 0));
        city.clear(0);
        checks.is("not over what was taken off", 0, city.paint(0, 0, 0, 16, 0, 0));
    }

    private void oneForEachLayer() {
        checks.stands(6, "That is a WRONG against the HAND of that LAYER (one for each such LAYER)");
        for (int layers = 1; layers <= 16; layers++) {
            Wallcode city = Cities.small();
            city.hand(1, 9, 0, 0);
            for (int layer = 0; layer < layers; layer++) {
                city.paint(0, 0, layer, 1, 0, 0);
            }
            checks.is("over " + layers + " LAYERS of one HAND", layers, city.paint(1, 0, 0, 16, 0, 0));
            checks.is("wrongs(1, 0)", layers, city.wrongs(1, 0));
            checks.is("over the one of 16 CELLS", 1, city.paint(0, 0, 0, 16, 0, 0));
            checks.is("wrongs(0, 1)", 1, city.wrongs(0, 1));
        }
        Wallcode city = Cities.small();
        city.hand(1, 9, 0, 0);
        city.paint(0, 0, 0, 16, 0, 0);
        city.paint(0, 0, 1, 1, 0, 0);
        city.paint(0, 0, 14, 1, 0, 0);
        checks.is("a LAYER in three parts, and two in it", 3, city.paint(1, 0, 0, 16, 0, 0));
    }

    private void oneForEachHandOfEight() {
        checks.stands(6, "That is a WRONG against the HAND of that LAYER (one for each such LAYER)");
        for (int painter = 0; painter < 8; painter++) {
            Wallcode city = Cities.small();
            for (int hand = 1; hand < 8; hand++) {
                city.hand(hand % 4, 9, 0, 0);
            }
            for (int hand = 0; hand < 8; hand++) {
                city.paint(hand, 0, 2 * hand, 2, 0, 0);
            }
            checks.is("HAND " + painter + " over all eight", 6, city.paint(painter, 0, 0, 16, 0, 0));
            for (int hand = 0; hand < 8; hand++) {
                checks.is("wrongs(" + painter + ", " + hand + ")", hand % 4 == painter % 4 ? 0 : 1,
                    city.wrongs(painter, hand));
            }
            checks.is("ofHand(" + painter + ", 7)", 6, city.ofHand(painter, 7));
            checks.is("ofHand(" + painter + ", 8)", 0, city.ofHand(painter, 8));
            checks.is("many(6)", 6, city.many(6));
        }
    }

    private void againstOtherCrews() {
        checks.stands(6, "or all of these hold: that HAND is of another CREW");
        for (int one = 0; one <= 3; one++) {
            for (int other = 0; other <= 3; other++) {
                Wallcode city = new Wallcode();
                city.wall(4, 1, 0, 0);
                city.hand(one, 9, 0, 0);
                city.hand(other, 9, 0, 0);
                city.paint(0, 0, 0, 4, 0, 0);
                checks.is("CREW " + other + " over CREW " + one, one == other ? 0 : 1,
                    city.paint(1, 0, 0, 4, 0, 0));
            }
        }
    }

    private void againstNoSmallerKind() {
        checks.stands(6, "the new KIND is no greater than that of that LAYER");
        for (int below = 0; below <= 3; below++) {
            for (int above = 0; above <= 3; above++) {
                Wallcode city = Cities.small();
                city.hand(1, 9, 0, 0);
                city.paint(0, 0, 0, 4, below, 0);
                checks.is("KIND " + above + " over " + below, above <= below ? 1 : 0,
                    city.paint(1, 0, 0, 4, above, 0));
            }
        }
    }

    private void againstWhatIsLessThanTwentyNightsOld() {
        checks.stands(6, "the LAYER was painted less than 20 NIGHTS ago");
        for (int night : new int[] {0, 1, 20, 379, 380, 381, 400}) {
            for (int ago : new int[] {0, 1, 18, 19, 20, 21}) {
                if (night + ago <= 400) {
                    Wallcode city = Cities.small(night);
                    city.hand(1, 9, 0, 0);
                    city.paint(0, 0, 0, 4, 0, 0);
                    Cities.passTo(city, night + ago);
                    checks.is("of NIGHT " + night + ", " + ago + " NIGHTS ago", ago < 20 ? 1 : 0,
                        city.paint(1, 0, 0, 4, 0, 0));
                }
            }
        }
    }

    private void notByWhatIsLegal() {
        checks.stands(6, "and the new one is not LEGAL");
        for (int nights : new int[] {0, 1, 2}) {
            Wallcode city = Cities.small();
            city.hand(1, 9, 0, 0);
            city.paint(0, 0, 0, 4, 0, 0);
            city.permit(0, 1, 1);
            Cities.passTo(city, nights);
            checks.is("with the PERMIT up to NIGHT 1, in NIGHT " + nights, nights <= 1 ? 0 : 1,
                city.paint(1, 0, 0, 4, 0, 0));
        }
        Wallcode city = Cities.small();
        city.hand(1, 9, 0, 0);
        city.permit(0, 0, 400);
        city.paint(0, 0, 0, 4, 0, 0);
        checks.is("over a LEGAL one", 1, city.paint(1, 0, 0, 4, 0, 0));
    }

    private void againstMemorials() {
        checks.stands(6, "if that is another HAND, and it is a MEMORIAL");
        for (int nights : new int[] {0, 19, 20, 400}) {
            Wallcode city = Cities.small();
            city.hand(0, 9, 0, 0);
            city.paint(0, 0, 0, 4, 0, 0);
            city.paint(0, 0, 4, 4, 0, 0);
            city.remember(0);
            Cities.passTo(city, nights);
            city.permit(0, 0, 400);
            checks.is("by the HAND itself", 0, city.paint(0, 0, 0, 1, 3, 0));
            checks.is("by a LEGAL BURNER of its CREW, " + nights + " NIGHTS later", 1,
                city.paint(1, 0, 0, 16, 3, 0));
            checks.is("wrongs(1, 0)", 1, city.wrongs(1, 0));
            checks.is("when it is not shown any more", 0, city.paint(1, 0, 0, 16, 3, 0));
        }
    }

    private void caughtAtTheEndsOfItsMinutes() {
        checks.stands(6, "The HAND is CAUGHT, if the new LAYER is not LEGAL, and one of its minutes (the first one"
            + " has the number of what was used up ahead of it) is in the WATCH of that WALL");
        int used = 40;
        int minutes = 30;
        int[][] watches = {
            {0, 38}, {0, 39}, {0, 40}, {39, 39}, {40, 40}, {41, 41}, {39, 40}, {50, 60}, {0, 359}, {68, 68},
            {69, 69}, {70, 70}, {71, 71}, {69, 70}, {69, 359}, {70, 359}, {71, 359}, {38, 71}, {40, 69},
        };
        for (int[] w : watches) {
            Wallcode city = Cities.small();
            city.wall(4, 1, 0, 0);
            city.watch(1, w[0], w[1]);
            Cities.useUp(city, 0, 0, used);
            city.paint(0, 1, 0, 3, 3, 0);
            boolean isCaught = w[0] <= used + minutes - 1 && w[1] >= used;
            checks.is("minutes 40 to 69, WATCH " + w[0] + " to " + w[1], isCaught ? 1 : 0, city.ofHand(0, 10));
        }
    }

    private void notCaughtElsewhere() {
        checks.stands(6, "The HAND is CAUGHT, if the new LAYER is not LEGAL, and one of its minutes (the first one"
            + " has the number of what was used up ahead of it) is in the WATCH of that WALL");
        Wallcode city = Cities.small();
        city.wall(4, 1, 0, 0);
        city.hand(1, 9, 0, 0);
        city.watch(0, 0, 359);
        city.permit(0, 0, 1);
        city.paint(0, 1, 0, 1, 0, 0);
        checks.is("on another WALL", 0, city.ofHand(0, 10));
        city.paint(0, 0, 0, 1, 0, 0);
        checks.is("LEGAL", 0, city.ofHand(0, 10));
        city.pass(1);
        city.paint(0, 0, 0, 1, 0, 0);
        checks.is("LEGAL in the last NIGHT of the PERMIT", 0, city.ofHand(0, 10));
        city.paint(1, 0, 0, 16, 3, 0);
        city.paint(1, 0, 0, 16, 3, 0);
        checks.refuses("without so many minutes", Checks.STATE, city, () -> city.paint(1, 0, 0, 16, 3, 0));
        checks.is("CAUGHT only for what was painted", 2, city.ofHand(1, 10));
        city.pass(1);
        city.paint(0, 0, 0, 1, 0, 0);
        checks.is("not LEGAL any more", 1, city.ofHand(0, 10));
    }

    private void finesAndKnown() {
        checks.stands(6, "FINES are 20, and 10 times KIND, more, and the HAND is KNOWN from then on.");
        for (int kind = 0; kind <= 3; kind++) {
            Wallcode city = Cities.small();
            city.hand(0, 9, 0, 0);
            city.watch(0, 0, 0);
            city.paint(0, 0, 0, 16, kind, 0);
            checks.is("FINES of KIND " + kind, 20 + 10 * kind, city.ofHand(0, 2));
            checks.is("KNOWN", 1, city.ofHand(0, 3));
            city.paint(0, 0, 0, 1, kind, 0);
            checks.is("FINES behind the WATCH", 20 + 10 * kind, city.ofHand(0, 2));
            checks.is("still KNOWN", 1, city.ofHand(0, 3));
            city.pass(1);
            city.paint(0, 0, 0, 1, kind, 0);
            checks.is("FINES of two", 40 + 20 * kind, city.ofHand(0, 2));
            city.pay(0);
            city.permit(0, 0, 400);
            Cities.passTo(city, 400);
            checks.is("KNOWN from then on", 1, city.ofHand(0, 3));
            checks.is("of another HAND", 0, city.ofHand(1, 3));
            checks.is("its FINES", 0, city.ofHand(1, 2));
        }
    }

    private void finesOfSixtyLayers() {
        checks.stands(6, "FINES are 20, and 10 times KIND, more, and the HAND is KNOWN from then on.");
        Wallcode city = Cities.small();
        city.watch(0, 0, 359);
        for (int layer = 0; layer < 60; layer++) {
            if (layer == 36) {
                checks.is("left", 0, city.ofHand(0, 1));
                city.pass(1);
            }
            city.paint(0, 0, 0, 1, 3, 0);
            checks.is("FINES", 50 * (layer + 1), city.ofHand(0, 2));
        }
        checks.is("CAUGHT", 60, city.ofHand(0, 10));
        checks.is("many(8)", 3000, city.many(8));
        checks.is("many(7)", 1, city.many(7));
        checks.refuses("with 60 LAYERS", Checks.STATE, city, () -> city.paint(0, 0, 0, 1, 3, 0));
        checks.is("pay(0)", 3000, city.pay(0));
    }

    private void theLayerStays() {
        checks.stands(6, "(The LAYER stays.)");
        Wallcode city = Cities.small();
        city.watch(0, 0, 359);
        city.paint(0, 0, 0, 16, 0, 0);
        checks.is("CAUGHT", 1, city.ofHand(0, 10));
        for (int cell = 0; cell < 16; cell++) {
            checks.is("shows(0, " + cell + ")", 0, city.shows(0, cell));
        }
    }
}
