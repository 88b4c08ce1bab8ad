/** What section 1 of 'Terms' says of HANDS, the NIGHT and KINDS, at its ends: promises 3, 6, 13 and 16. */
final class HandBounds {
    private final Checks checks;

    HandBounds(Checks checks) {
        this.checks = checks;
    }

    void run() {
        thereAreAtMostEight();
        whatIsNotSoComesFirst();
        crews();
        speeds();
        slantsAndRounds();
        finesAndKnownAtFirst();
        minutesOfANight();
        nightsUpToFourHundred();
        kindsAndWeights();
        minutesOfACell();
    }

    private void thereAreAtMostEight() {
        checks.stands(3, "HANDS: at most 8, numbered from 0");
        checks.stands(3, "Tells a HAND.");
        checks.stands(3, "Returns its number.");
        for (int hands = 0; hands < 8; hands++) {
            Wallcode city = Cities.withHands(hands);
            checks.is("many(2)", hands, city.many(2));
            for (int hand : Ends.notBelow(hands)) {
                checks.refuses("ofHand(" + hand + ", 0)", Checks.INDEX, city, () -> city.ofHand(hand, 0));
            }
            checks.is("one HAND more", hands, city.hand(3, 9, 9, 9));
            checks.is("its CREW", 3, city.ofHand(hands, 0));
            checks.is("HANDS", hands + 1, city.many(2));
        }
        checks.stands(3, "Throws IllegalStateException if there are 8");
        Wallcode city = Cities.withHands(8);
        checks.refuses("a ninth HAND", Checks.STATE, city, () -> city.hand(0, 1, 0, 0));
        checks.refuses("a tenth HAND", Checks.STATE, city, () -> city.hand(3, 9, 9, 9));
        checks.is("many(2)", 8, city.many(2));
        for (int hand = 0; hand < 8; hand++) {
            checks.is("CREW of " + hand, hand % 4, city.ofHand(hand, 0));
        }
    }

    private void whatIsNotSoComesFirst() {
        checks.stands(3, "Throws IllegalArgumentException if one of these is not as section 1 says");
        Wallcode city = Cities.withHands(8);
        int[][] bad = {{-1, 1, 0, 0}, {4, 1, 0, 0}, {0, 0, 0, 0}, {0, 10, 0, 0}, {0, 1, -1, 0}, {0, 1, 10, 0},
            {0, 1, 0, -1}, {0, 1, 0, 10}, {Ends.MIN, Ends.MAX, Ends.MIN, Ends.MAX}};
        for (int[] b : bad) {
            checks.refuses(Calls.text(Calls.HAND, b) + " with 8 HANDS", Checks.ARGUMENT, city,
                () -> city.hand(b[0], b[1], b[2], b[3]));
        }
    }

    private void crews() {
        checks.stands(3, "each of a CREW (0 to 3)");
        checks.ranges("hand(#, 1, 0, 0)", 0, 3, Wallcode::new, (c, v) -> c.hand(v, 1, 0, 0), v -> 0,
            Checks.ARGUMENT);
        for (int crew = 0; crew <= 3; crew++) {
            Wallcode city = new Wallcode();
            city.hand(crew, 1, 0, 0);
            checks.is("ofHand(0, 0)", crew, city.ofHand(0, 0));
        }
    }

    private void speeds() {
        checks.stands(3, "with a SPEED (1 to 9)");
        checks.ranges("hand(0, #, 0, 0)", 1, 9, Wallcode::new, (c, v) -> c.hand(0, v, 0, 0), v -> 0,
            Checks.ARGUMENT);
    }

    private void slantsAndRounds() {
        checks.stands(3, "a SLANT and a ROUND (0 to 9 each)");
        checks.ranges("hand(0, 1, #, 0)", 0, 9, Wallcode::new, (c, v) -> c.hand(0, 1, v, 0), v -> 0,
            Checks.ARGUMENT);
        checks.ranges("hand(0, 1, 0, #)", 0, 9, Wallcode::new, (c, v) -> c.hand(0, 1, 0, v), v -> 0,
            Checks.ARGUMENT);
        for (int slant = 0; slant <= 9; slant++) {
            for (int round = 0; round <= 9; round++) {
                Wallcode city = new Wallcode();
                city.wall(4, 1, 0, 0);
                city.hand(0, 1, slant, round);
                city.paint(0, 0, 0, 1, 0, 0);
                checks.is("SLANT", slant, city.ofLayer(0, 10));
                checks.is("ROUND", round, city.ofLayer(0, 11));
            }
        }
    }

    private void finesAndKnownAtFirst() {
        for (int hands = 1; hands <= 8; hands++) {
            Wallcode city = Cities.withHands(hands);
            checks.stands(3, "FINES (0 at first)");
            checks.is("ofHand(" + (hands - 1) + ", 2)", 0, city.ofHand(hands - 1, 2));
            checks.is("many(8)", 0, city.many(8));
            checks.is("pay(" + (hands - 1) + ")", 0, city.pay(hands - 1));
            checks.stands(3, "KNOWN or not (not at first)");
            checks.is("ofHand(" + (hands - 1) + ", 3)", 0, city.ofHand(hands - 1, 3));
            checks.is("many(7)", 0, city.many(7));
        }
        Wallcode city = Cities.small();
        city.watch(0, 0, 359);
        city.paint(0, 0, 0, 1, 0, 0);
        city.hand(0, 9, 3, 6);
        checks.is("a HAND told behind a KNOWN one", 0, city.ofHand(1, 3));
        checks.is("its FINES", 0, city.ofHand(1, 2));
    }

    private void minutesOfANight() {
        checks.stands(3, "and 360 minutes a NIGHT");
        for (int used : new int[] {0, 1, 359, 360}) {
            Wallcode city = Cities.small();
            checks.is("minutes at first", 360, city.ofHand(0, 1));
            Cities.useUp(city, 0, 0, used);
            checks.is("minutes behind " + used, 360 - used, city.ofHand(0, 1));
            city.hand(1, 1, 0, 0);
            checks.is("minutes of a HAND told then", 360, city.ofHand(1, 1));
            city.pass(1);
            checks.is("minutes in the next NIGHT, behind " + used, 360, city.ofHand(0, 1));
            Cities.useUp(city, 0, 0, 360);
            checks.is("all are used up in that NIGHT", 0, city.ofHand(0, 1));
            Cities.passTo(city, 400);
            checks.is("minutes in NIGHT 400", 360, city.ofHand(0, 1));
        }
    }

    private void nightsUpToFourHundred() {
        checks.stands(13, "The NIGHT is 0 at first (400 at most)");
        Wallcode city = Cities.small();
        checks.is("many(0)", 0, city.many(0));
        Cities.passTo(city, 399);
        checks.is("many(0)", 399, city.many(0));
        checks.refuses("pass(2) at NIGHT 399", Checks.STATE, city, () -> city.pass(2));
        checks.is("pass(1) at NIGHT 399", 0, city.pass(1));
        checks.is("many(0)", 400, city.many(0));
        checks.refuses("pass(1) at NIGHT 400", Checks.STATE, city, () -> city.pass(1));
        checks.is("many(0)", 400, city.many(0));
        checks.is("paint at NIGHT 400", 0, city.paint(0, 0, 0, 1, 0, 0));
        checks.is("its NIGHT", 400, city.ofLayer(0, 5));
    }

    private void kindsAndWeights() {
        checks.stands(6, "KINDS: 0 a TAG, 1 a THROW-UP, 2 a PIECE, 3 a BURNER");
        checks.stands(6, "their WEIGHTS are 1, 2, 4, 7");
        checks.ranges("paint(0, 0, 0, 1, #, 0)", 0, 3, Cities::small, (c, v) -> c.paint(0, 0, 0, 1, v, 0),
            v -> 0, Checks.ARGUMENT);
        int[] weights = {1, 2, 4, 7};
        for (int kind = 0; kind <= 3; kind++) {
            Wallcode city = Cities.small();
            city.paint(0, 0, 0, 1, kind, 0);
            checks.is("KIND", kind, city.ofLayer(0, 4));
            checks.is("FAME of one CELL with SIGHT 1", weights[kind], city.ofHand(0, 4));
            checks.is("its PRICE", 10 * weights[kind], city.ofLayer(0, 12));
        }
    }

    private void minutesOfACell() {
        checks.stands(6, "a CELL of one takes 6, 20, 60, 90 minutes, divided by SPEED, rounded up");
        int[][] due = {
            {6, 3, 2, 2, 2, 1, 1, 1, 1},
            {20, 10, 7, 5, 4, 4, 3, 3, 3},
            {60, 30, 20, 15, 12, 10, 9, 8, 7},
            {90, 45, 30, 23, 18, 15, 13, 12, 10},
        };
        for (int kind = 0; kind <= 3; kind++) {
            for (int speed = 1; speed <= 9; speed++) {
                int cell = due[kind][speed - 1];
                int widest = Math.min(16, 360 / cell);
                for (int wide : new int[] {1, 2, widest}) {
                    Wallcode city = new Wallcode();
                    city.wall(16, 1, 0, 0);
                    city.hand(0, speed, 0, 0);
                    city.paint(0, 0, 0, wide, kind, 0);
                    checks.is("left of KIND " + kind + " with SPEED " + speed + " on " + wide + " CELLS",
                        360 - wide * cell, city.ofHand(0, 1));
                }
            }
        }
    }
}
