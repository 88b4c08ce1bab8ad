/** What section 4 of 'Terms' says of FAME, PRICE, LIKENESS, SUSPECT and EYESORE, at its ends. */
final class FameBounds {
    private static final int NONE = -1;

    private final Checks checks;

    FameBounds(Checks checks) {
        this.checks = checks;
    }

    void run() {
        fameOfNothing();
        fameBySightAndWeight();
        fameOfWhatIsShown();
        theGreatestFame();
        aTenthRoundedDown();
        priceOfWhatIsNotSeen();
        slantAndRoundShown();
        likenessOfAll();
        suspectWithoutAKnownOne();
        suspectOfSeveralAlike();
        suspectByTheSmallestSum();
        suspectAtTheGreatestSum();
        eyesores();
        eyesoreWithoutCoins();
    }

    private void fameOfNothing() {
        checks.stands(16, "The FAME of a HAND: over all CELLS that show a LAYER of it, SIGHT of the WALL times WEIGHT.");
        Wallcode city = Cities.withHands(8);
        for (int hand = 0; hand < 8; hand++) {
            checks.is("without WALLS, HAND " + hand, 0, city.ofHand(hand, 4));
        }
        Wallcode walls = Cities.withWalls(6);
        walls.hand(0, 1, 0, 0);
        checks.is("without LAYERS", 0, walls.ofHand(0, 4));
    }

    private void fameBySightAndWeight() {
        checks.stands(16, "The FAME of a HAND: over all CELLS that show a LAYER of it, SIGHT of the WALL times WEIGHT.");
        int[] weights = {1, 2, 4, 7};
        for (int sight = 1; sight <= 9; sight++) {
            for (int kind = 0; kind <= 3; kind++) {
                for (int cells : new int[] {1, 2, 15, 16}) {
                    Wallcode city = new Wallcode();
                    city.wall(4, 1, 0, 0);
                    city.wall(16, sight, 0, 0);
                    city.hand(0, 9, 0, 0);
                    city.hand(0, 9, 0, 0);
                    city.paint(1, 1, 16 - cells, cells, kind, 0);
                    String text = "SIGHT " + sight + ", KIND " + kind + ", " + cells + " CELLS, ";
                    checks.is(text + "its HAND", sight * weights[kind] * cells, city.ofHand(1, 4));
                    checks.is(text + "another one", 0, city.ofHand(0, 4));
                    checks.isDouble(text + "the mean", sight * weights[kind] * cells / 2.0, city.meanFame());
                }
            }
        }
    }

    private void fameOfWhatIsShown() {
        checks.stands(16, "over all CELLS that show a LAYER of it");
        Wallcode city = Cities.small();
        city.hand(0, 9, 0, 0);
        city.paint(0, 0, 0, 16, 3, 0);
        for (int cell = 0; cell < 16; cell++) {
            city.paint(1, 0, cell, 1, 0, 0);
            checks.is("FAME of 0", 7 * (15 - cell), city.ofHand(0, 4));
            checks.is("FAME of 1", cell + 1, city.ofHand(1, 4));
        }
        city.paint(1, 0, 0, 16, 2, 0);
        checks.is("FAME over its own", 64, city.ofHand(1, 4));
        city.clear(0);
        checks.is("FAME of what was shown", 0, city.ofHand(1, 4));
    }

    private void theGreatestFame() {
        checks.stands(9, "The PRICE of a LAYER: WEIGHT times the CELLS in which it is SEEN, times (10, and a tenth of"
            + " the FAME of its HAND, rounded down).");
        Wallcode city = new Wallcode();
        city.hand(3, 9, 0, 0);
        for (int wall = 0; wall < 6; wall++) {
            city.wall(16, 9, 3, 0);
            city.paint(0, wall, 0, 16, 3, 0);
            city.pass(1);
        }
        checks.is("FAME of 96 CELLS", 6048, city.ofHand(0, 4));
        checks.is("wouldFame(0, 30)", 6048, city.wouldFame(0, 30));
        checks.isDouble("meanFame()", 6048.0, city.meanFame());
        int[] prices = {68768, 57568, 46256, 34944, 23632, 12320};
        for (int layer = 0; layer < 6; layer++) {
            checks.is("ofLayer(" + layer + ", 12)", prices[layer], city.ofLayer(layer, 12));
            checks.is("sell(" + layer + ")", prices[layer], city.sell(layer));
            checks.is("FAME behind it", 1008 * (5 - layer), city.ofHand(0, 4));
        }
        checks.is("many(10)", 243488, city.many(10));
    }

    private void aTenthRoundedDown() {
        checks.stands(17, "All numbers are whole; what is divided is rounded down, if nothing else is said.");
        checks.stands(17, "times (10, and a tenth of the FAME of its HAND, rounded down).");
        for (int fame : new int[] {1, 8, 9, 10, 11, 18, 19, 20, 21, 29, 30, 89, 90, 95, 96}) {
            Wallcode city = new Wallcode();
            city.hand(0, 9, 0, 0);
            int left = fame;
            for (int wall = 0; wall < 6; wall++) {
                city.wall(16, 1, 0, 0);
                if (left > 0) {
                    city.paint(0, wall, 0, Math.min(left, 16), 0, 0);
                }
                left -= 16;
            }
            int tenth = fame < 10 ? 0 : Integer.parseInt(("" + fame).substring(0, 1));
            int cells = Math.min(fame, 16);
            checks.is("FAME", fame, city.ofHand(0, 4));
            checks.is("PRICE with FAME " + fame, cells * (10 + tenth), city.ofLayer(0, 12));
        }
    }

    private void priceOfWhatIsNotSeen() {
        checks.stands(17, "WEIGHT times the CELLS in which it is SEEN");
        Wallcode city = Cities.small();
        city.paint(0, 0, 0, 4, 3, 0);
        city.paint(0, 0, 0, 4, 3, 0);
        checks.is("not SEEN, with FAME 28", 0, city.ofLayer(0, 12));
        checks.is("SEEN in 4 CELLS", 7 * 4 * 12, city.ofLayer(1, 12));
        city.paint(0, 0, 0, 3, 0, 0);
        checks.is("SEEN in 1 CELL, with FAME 10", 7 * 11, city.ofLayer(1, 12));
        city.paint(0, 0, 3, 1, 0, 0);
        checks.is("SEEN in none", 0, city.ofLayer(1, 12));
    }

    private void slantAndRoundShown() {
        checks.stands(17, "A LAYER shows the SLANT of its HAND and WOBBLE, and the ROUND less WOBBLE.");
        for (int end : new int[] {0, 1, 8, 9}) {
            Wallcode city = new Wallcode();
            city.wall(4, 1, 0, 0);
            city.hand(0, 9, end, 9 - end);
            for (int wobble = -2; wobble <= 2; wobble++) {
                city.paint(0, 0, 0, 1, 0, wobble);
                String text = "SLANT " + end + ", ROUND " + (9 - end) + ", WOBBLE " + wobble;
                checks.is(text + ", ofLayer(.., 10)", end + wobble, city.ofLayer(wobble + 2, 10));
                checks.is(text + ", ofLayer(.., 11)", 9 - end - wobble, city.ofLayer(wobble + 2, 11));
            }
        }
    }

    private void likenessOfAll() {
        checks.stands(19, "The LIKENESS of two LAYERS is 20, less the differences (without signs) of the SLANTS and of"
            + " the ROUNDS that they show.");
        checks.stands(19, "Returns their LIKENESS.");
        Wallcode city = new Wallcode();
        city.wall(4, 1, 0, 0);
        int[][] shown = new int[20][];
        for (int layer = 0; layer < 20; layer++) {
            int wobble = layer % 5 - 2;
            int slant = layer / 10 * 9;
            int round = layer / 5 % 2 * 9;
            if (layer % 5 == 0) {
                city.hand(0, 9, slant, round);
            }
            city.paint(layer / 5, 0, 0, 1, 0, wobble);
            shown[layer] = new int[] {slant + wobble, round - wobble};
        }
        for (int one = 0; one < 20; one++) {
            for (int other = 0; other < 20; other++) {
                int slants = Math.max(shown[one][0], shown[other][0]) - Math.min(shown[one][0], shown[other][0]);
                int rounds = Math.max(shown[one][1], shown[other][1]) - Math.min(shown[one][1], shown[other][1]);
                checks.is("likeness(" + one + ", " + other + ")", 20 - slants - rounds, city.likeness(one, other));
            }
        }
        checks.is("the greatest one", 20, city.likeness(7, 7));
        checks.is("-2 and 11, 11 and -2: the smallest one", -6, city.likeness(5, 14));
    }

    private void suspectWithoutAKnownOne() {
        checks.stands(17, "NONE without a KNOWN one.");
        checks.stands(17, "NONE is -1.");
        Wallcode city = Cities.small();
        city.wall(4, 1, 0, 0);
        city.watch(1, 0, 0);
        city.paint(0, 0, 0, 1, 0, 0);
        city.hand(1, 9, 9, 0);
        checks.is("with HANDS that are not KNOWN", NONE, city.ofLayer(0, 13));
        checks.is("many(11)", 0, city.many(11));
        city.paint(1, 1, 0, 1, 0, 0);
        checks.is("with one that is", 1, city.ofLayer(0, 13));
        checks.is("many(11)", 1, city.many(11));
        checks.is("of its own LAYER", 1, city.ofLayer(1, 13));
    }

    private void suspectOfSeveralAlike() {
        checks.stands(17, "of several the smallest number");
        Wallcode city = new Wallcode();
        city.wall(4, 1, 0, 0);
        city.watch(0, 0, 359);
        for (int hand = 0; hand < 8; hand++) {
            city.hand(0, 9, 5, 5);
        }
        for (int hand = 7; hand >= 0; hand--) {
            city.paint(hand, 0, 0, 1, 0, 0);
            checks.is("KNOWN are " + hand + " to 7", hand, city.ofLayer(0, 13));
            checks.is("of the last LAYER", hand, city.ofLayer(7 - hand, 13));
        }
        int[][] slantsAndRounds = {{4, 5}, {6, 5}, {5, 4}, {5, 6}};
        for (int[] first : slantsAndRounds) {
            for (int[] second : slantsAndRounds) {
                Wallcode two = new Wallcode();
                two.wall(4, 1, 0, 0);
                two.hand(0, 9, 5, 5);
                two.hand(0, 9, first[0], first[1]);
                two.hand(0, 9, second[0], second[1]);
                two.paint(0, 0, 0, 1, 0, 0);
                two.watch(0, 0, 359);
                two.paint(2, 0, 1, 1, 0, 0);
                checks.is("the only KNOWN one", 2, two.ofLayer(0, 13));
                two.paint(1, 0, 1, 1, 0, 0);
                checks.is("each with 1 in all", 1, two.ofLayer(0, 13));
            }
        }
    }

    private void suspectByTheSmallestSum() {
        checks.stands(17, "The SUSPECT of a LAYER is the KNOWN HAND with the smallest sum of the differences"
            + " (without signs) of its SLANT and ROUND to those that are shown");
        int[][] handsAndDue = {
            {5, 5, 5, 6, 0}, {5, 6, 5, 5, 1}, {4, 4, 5, 6, 1}, {3, 5, 4, 4, 0}, {9, 5, 5, 2, 1}, {2, 5, 5, 9, 0},
            {6, 4, 4, 5, 1}, {7, 5, 5, 8, 0}, {0, 0, 9, 9, 1}, {0, 9, 9, 0, 0},
        };
        for (int[] row : handsAndDue) {
            Wallcode city = new Wallcode();
            city.wall(4, 1, 0, 0);
            city.hand(0, 9, row[0], row[1]);
            city.hand(0, 9, row[2], row[3]);
            city.hand(0, 9, 5, 5);
            city.paint(2, 0, 0, 1, 0, 0);
            city.watch(0, 0, 359);
            city.paint(1, 0, 1, 1, 0, 0);
            city.paint(0, 0, 1, 1, 0, 0);
            String text = row[0] + " and " + row[1] + ", or " + row[2] + " and " + row[3] + ", to 5 and 5";
            checks.is(text, row[4], city.ofLayer(0, 13));
            city.pass(1);
            city.paint(2, 0, 1, 1, 0, 0);
            checks.is(text + ", or itself", suspectOrItself(row), city.ofLayer(0, 13));
        }
        wobbleMisleads();
    }

    /** With HAND 2 of SLANT and ROUND 5 KNOWN: 0 or 1 only if it is just so, too. */
    private static int suspectOrItself(int[] row) {
        if (row[0] == 5 && row[1] == 5) {
            return 0;
        }
        return row[2] == 5 && row[3] == 5 ? 1 : 2;
    }

    private void wobbleMisleads() {
        checks.stands(17, "to those that are shown");
        for (int wobble = -2; wobble <= 2; wobble++) {
            Wallcode city = new Wallcode();
            city.wall(4, 1, 0, 0);
            city.watch(0, 0, 359);
            city.hand(0, 9, 4, 5);
            city.hand(0, 9, 6, 3);
            city.paint(0, 0, 0, 1, 0, wobble);
            city.paint(1, 0, 1, 1, 0, 0);
            checks.is("4 and 5 with WOBBLE " + wobble + ", or 6 and 3", wobble == 2 ? 1 : 0, city.ofLayer(0, 13));
            checks.is("many(11)", wobble == 2 ? 1 : 0, city.many(11));
        }
    }

    private void suspectAtTheGreatestSum() {
        checks.stands(17, "The SUSPECT of a LAYER is the KNOWN HAND with the smallest sum of the differences");
        Wallcode city = new Wallcode();
        city.wall(4, 1, 0, 0);
        city.hand(0, 9, 0, 9);
        city.hand(0, 9, 9, 0);
        city.paint(0, 0, 0, 1, 0, -2);
        city.watch(0, 0, 359);
        city.paint(1, 0, 1, 1, 0, 2);
        checks.is("-2 and 11, to 9 and 0", 1, city.ofLayer(0, 13));
        checks.is("11 and -2, to 9 and 0", 1, city.ofLayer(1, 13));
        city.paint(0, 0, 2, 1, 0, 0);
        checks.is("-2 and 11, to 0 and 9, too", 0, city.ofLayer(0, 13));
        checks.is("11 and -2, to 0 and 9, too", 1, city.ofLayer(1, 13));
    }

    private void eyesores() {
        checks.stands(14, "The EYESORE of a WALL is SIGHT times how many CELLS BUFF would make BARE.");
        for (int sight : new int[] {1, 2, 8, 9}) {
            for (int cells = 0; cells <= 16; cells++) {
                Wallcode city = new Wallcode();
                city.wall(16, sight, 0, 0);
                city.hand(0, 9, 0, 0);
                city.hand(1, 9, 0, 0);
                city.permit(0, 1, 0);
                city.paint(1, 0, 0, 16, 3, 0);
                checks.is("LEGAL", 0, city.ofWall(0, 5));
                if (cells > 0) {
                    city.paint(0, 0, 16 - cells, cells, 0, 0);
                }
                checks.is(cells + " CELLS with SIGHT " + sight, sight * cells, city.ofWall(0, 5));
                city.pass(1);
                checks.is("the PERMIT ran out, SIGHT " + sight, sight * 16, city.ofWall(0, 5));
            }
        }
    }

    private void eyesoreWithoutCoins() {
        checks.stands(14, "The EYESORE of a WALL is SIGHT times how many CELLS BUFF would make BARE.");
        Wallcode city = Cities.small();
        Cities.spend(city, 0, 0, 30);
        checks.is("a BARE WALL", 0, city.ofWall(0, 5));
        city.paint(0, 0, 0, 16, 0, 0);
        checks.is("COINS or not", 16, city.ofWall(0, 5));
    }
}
