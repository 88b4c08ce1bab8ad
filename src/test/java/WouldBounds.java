/** What would be, at its ends: promises 22 to 26. */
final class WouldBounds {
    private static final int NONE = -1;

    private final Checks checks;

    WouldBounds(Checks checks) {
        this.checks = checks;
    }

    void run() {
        bestFromByWidth();
        bestFromTheLastCell();
        bestFromTheFirstOfSeveral();
        bestFromTheGreatestFame();
        bestFromByTheCode();
        bestFromWithNothingLeft();
        bestFromOfNoHandOrWall();
        wouldWrongFromAndWide();
        wouldWrongAtTheMost();
        wouldWrongWithNothingLeft();
        wouldWrongOfNoHandOrWall();
        nextBuffWithoutOne();
        nextBuffOfSeveral();
        nextBuffWithJustEnoughCoins();
        wouldFameOfNights();
        wouldFameBeyondFourHundred();
        wouldFameOnTheNightOfACleaning();
        wouldFameOfNoHand();
        digestOfANewCity();
        digestWrapsAround();
        digestTakesJustTheseArguments();
    }

    private static Wallcode twoHands(int width) {
        Wallcode city = new Wallcode();
        city.wall(width, 1, 0, 0);
        city.hand(0, 9, 3, 6);
        city.hand(1, 9, 4, 5);
        return city;
    }

    private void bestFromByWidth() {
        checks.stands(22, "NONE, if the WALL is not so wide.");
        checks.stands(22, "Throws IllegalArgumentException if wide is not 1 to 16, or kind not 0 to 3");
        for (int width = 4; width <= 16; width++) {
            int w = width;
            checks.ranges("bestFrom(0, 0, #, 0) with WIDTH " + width, 1, 16, () -> twoHands(w),
                (c, v) -> c.bestFrom(0, 0, v, 0), v -> v <= w ? 0 : NONE, Checks.ARGUMENT);
            Wallcode city = twoHands(width);
            for (int wide = 1; wide <= 16; wide++) {
                checks.is("bestFrom(0, 0, " + wide + ", 3) with WIDTH " + width, wide <= width ? 0 : NONE,
                    city.bestFrom(0, 0, wide, 3));
            }
        }
        checks.ranges("bestFrom(0, 0, 4, #)", 0, 3, () -> twoHands(4), (c, v) -> c.bestFrom(0, 0, 4, v), v -> 0,
            Checks.ARGUMENT);
        checks.ranges("bestFrom(0, 0, 5, #), not so wide", 0, 3, () -> twoHands(4),
            (c, v) -> c.bestFrom(0, 0, 5, v), v -> NONE, Checks.ARGUMENT);
    }

    private void bestFromTheLastCell() {
        checks.stands(22, "Returns from which CELL it would do the fewest WRONGS to paint so now");
        for (int width : new int[] {4, 5, 15, 16}) {
            Wallcode city = twoHands(width);
            for (int cell = 0; cell < width - 1; cell++) {
                city.paint(1, 0, cell, 1, 0, 0);
            }
            for (int wide = 1; wide <= width; wide++) {
                checks.is("the last one, WIDTH " + width + ", " + wide + " CELLS", width - wide,
                    city.bestFrom(0, 0, wide, 0));
            }
        }
    }

    private void bestFromTheFirstOfSeveral() {
        checks.stands(22, "of several the smallest one");
        Wallcode city = twoHands(16);
        city.paint(1, 0, 0, 1, 0, 0);
        checks.is("BARE from 1 on", 1, city.bestFrom(0, 0, 1, 0));
        checks.is("BARE from 1 on, 15 CELLS", 1, city.bestFrom(0, 0, 15, 0));
        checks.is("all 16 CELLS", 0, city.bestFrom(0, 0, 16, 0));
        city.paint(1, 0, 1, 15, 0, 0);
        checks.is("one WRONG everywhere but at 0 and 1", 0, city.bestFrom(0, 0, 1, 0));
        checks.is("two WRONGS from 0 on", 1, city.bestFrom(0, 0, 2, 0));
    }

    private void bestFromTheGreatestFame() {
        checks.stands(22, "of several that with which its FAME would be greatest then");
        int[] weights = {1, 2, 4, 7};
        for (int below = 0; below <= 3; below++) {
            for (int kind = 0; kind <= 3; kind++) {
                Wallcode city = twoHands(16);
                city.paint(0, 0, 0, 16, below, 0);
                checks.is("over its own alone", 0, city.bestFrom(0, 0, 1, kind));
                city.paint(0, 0, 15, 1, 0, 0);
                int due = weights[below] > weights[0] ? 15 : 0;
                checks.is("KIND " + kind + " over " + below + " or a TAG", due, city.bestFrom(0, 0, 1, kind));
            }
        }
        Wallcode city = twoHands(16);
        city.paint(0, 0, 0, 15, 3, 0);
        checks.is("the BARE one", 15, city.bestFrom(0, 0, 1, 0));
        city.paint(1, 0, 15, 1, 3, 0);
        checks.is("fewer WRONGS, though less FAME", 0, city.bestFrom(0, 0, 1, 3));
        city.permit(0, 0, 0);
        checks.is("LEGAL: no WRONG, and more FAME", 15, city.bestFrom(0, 0, 1, 3));
        city.remember(1);
        checks.is("a MEMORIAL", 0, city.bestFrom(0, 0, 1, 3));
    }

    private void bestFromByTheCode() {
        checks.stands(22, "Returns from which CELL it would do the fewest WRONGS to paint so now");
        for (int nights : new int[] {0, 18, 19, 20, 21}) {
            Wallcode city = twoHands(4);
            city.paint(1, 0, 0, 3, 1, 0);
            Cities.passTo(city, nights);
            checks.is(nights + " NIGHTS later, a TAG", nights < 20 ? 3 : 0, city.bestFrom(0, 0, 1, 0));
            checks.is(nights + " NIGHTS later, a THROW-UP", nights < 20 ? 3 : 0, city.bestFrom(0, 0, 1, 1));
            checks.is(nights + " NIGHTS later, a PIECE", 0, city.bestFrom(0, 0, 1, 2));
            checks.is(nights + " NIGHTS later, by itself", 3, city.bestFrom(1, 0, 1, 0));
        }
    }

    private void bestFromWithNothingLeft() {
        checks.stands(22, "(minutes and how many LAYERS there are aside)");
        Wallcode city = Cities.withLayers(60);
        checks.is("60 LAYERS", 0, city.bestFrom(1, 0, 16, 3));
        Wallcode tired = twoHands(16);
        Cities.useUp(tired, 0, 0, 360);
        tired.clear(0);
        for (int wide = 1; wide <= 16; wide++) {
            checks.is("no minutes left, " + wide + " CELLS", 0, tired.bestFrom(0, 0, wide, 3));
        }
        Wallcode slow = new Wallcode();
        slow.wall(16, 1, 0, 0);
        slow.hand(0, 1, 0, 0);
        checks.is("1440 minutes", 0, slow.bestFrom(0, 0, 16, 3));
    }

    private void bestFromOfNoHandOrWall() {
        checks.stands(22, "Throws IndexOutOfBoundsException if there is no such HAND, or WALL");
        for (int many : new int[] {0, 1, 6}) {
            Wallcode city = wallsAndHands(many);
            for (int number : Ends.notBelow(many)) {
                for (int wide : new int[] {1, 16, 0, 17}) {
                    checks.refuses("bestFrom(" + number + ", 0, " + wide + ", 0)", Checks.INDEX, city,
                        () -> city.bestFrom(number, 0, wide, 0));
                    checks.refuses("bestFrom(0, " + number + ", " + wide + ", 4)", Checks.INDEX, city,
                        () -> city.bestFrom(0, number, wide, 4));
                }
            }
        }
        checks.is("bestFrom(5, 5, 9, 3)", 0, wallsAndHands(6).bestFrom(5, 5, 9, 3));
        checks.is("bestFrom(5, 5, 10, 3)", NONE, wallsAndHands(6).bestFrom(5, 5, 10, 3));
    }

    private static Wallcode wallsAndHands(int many) {
        Wallcode city = Cities.withWalls(many);
        for (int hand = 0; hand < many; hand++) {
            city.hand(hand % 4, 9, 0, 0);
        }
        return city;
    }

    private void wouldWrongFromAndWide() {
        checks.stands(23, "Throws IllegalArgumentException if from is below 0, wide below 1, one of the CELLS is not"
            + " there, or kind not 0 to 3");
        int[] ends = {Ends.MIN, Ends.MIN + 1, Ends.MIN + 16, -2, -1, 0, 1, 2, 3, 4, 5, 8, 15, 16, 17, Ends.MAX - 16,
            Ends.MAX - 15, Ends.MAX - 1, Ends.MAX};
        for (int width : new int[] {4, 16}) {
            for (int from : ends) {
                Wallcode city = twoHands(width);
                city.paint(1, 0, 0, width, 3, 0);
                for (int wide : ends) {
                    String text = Calls.text(Calls.WOULD_WRONG, 0, 0, from, wide, 0) + " with WIDTH " + width;
                    if (from >= 0 && wide >= 1 && (long) from + wide <= width) {
                        checks.is(text, 1, city.wouldWrong(0, 0, from, wide, 0));
                    } else {
                        checks.refuses(text, Checks.ARGUMENT, city, () -> city.wouldWrong(0, 0, from, wide, 0));
                    }
                }
            }
        }
        checks.ranges("wouldWrong(0, 0, 0, 1, #)", 0, 3, () -> twoHands(4), (c, v) -> c.wouldWrong(0, 0, 0, 1, v),
            v -> 0, Checks.ARGUMENT);
    }

    private void wouldWrongAtTheMost() {
        checks.stands(23, "Returns how many WRONGS it would do to paint so now");
        for (int cells = 0; cells <= 16; cells++) {
            Wallcode city = twoHands(16);
            for (int cell = 0; cell < cells; cell++) {
                city.paint(1, 0, cell, 1, 0, 0);
            }
            checks.is(cells + " LAYERS", cells, city.wouldWrong(0, 0, 0, 16, 0));
            checks.is(cells + " LAYERS, the last CELL", cells == 16 ? 1 : 0, city.wouldWrong(0, 0, 15, 1, 0));
            checks.is(cells + " LAYERS, by their HAND", 0, city.wouldWrong(1, 0, 0, 16, 0));
            checks.is("many(6) stays", 0, city.many(6));
            checks.is("what it does then", cells, city.paint(0, 0, 0, 16, 0, 0));
        }
    }

    private void wouldWrongWithNothingLeft() {
        checks.stands(23, "(minutes and how many LAYERS there are aside)");
        Wallcode city = Cities.withLayers(60);
        checks.is("60 LAYERS", 16, city.wouldWrong(1, 0, 0, 16, 0));
        checks.is("60 LAYERS, one CELL", 1, city.wouldWrong(1, 0, 15, 1, 0));
        Wallcode tired = twoHands(16);
        tired.paint(1, 0, 0, 16, 3, 0);
        tired.wall(16, 1, 0, 0);
        Cities.useUp(tired, 0, 1, 360);
        checks.is("no minutes left", 1, tired.wouldWrong(0, 0, 0, 1, 0));
        checks.is("no minutes left, 16 BURNERS", 1, tired.wouldWrong(0, 0, 0, 16, 3));
    }

    private void wouldWrongOfNoHandOrWall() {
        checks.stands(23, "Throws IndexOutOfBoundsException if there is no such HAND, or WALL");
        for (int many : new int[] {0, 1, 6}) {
            Wallcode city = wallsAndHands(many);
            for (int number : Ends.notBelow(many)) {
                for (int from : new int[] {0, -1}) {
                    checks.refuses("wouldWrong(" + number + ", 0, " + from + ", 1, 0)", Checks.INDEX, city,
                        () -> city.wouldWrong(number, 0, from, 1, 0));
                    checks.refuses("wouldWrong(0, " + number + ", " + from + ", 0, 4)", Checks.INDEX, city,
                        () -> city.wouldWrong(0, number, from, 0, 4));
                }
            }
        }
    }

    private void nextBuffWithoutOne() {
        checks.stands(24, "NONE without one.");
        checks.is("of a new city", NONE, new Wallcode().nextBuff());
        checks.is("with BARE WALLS", NONE, Cities.withWalls(6).nextBuff());
        checks.stands(24, "the one with the greatest EYESORE above 0");
        Wallcode city = Cities.small();
        city.permit(0, 0, 0);
        city.paint(0, 0, 0, 16, 3, 0);
        checks.is("with an EYESORE of 0", NONE, city.nextBuff());
        city.wall(4, 1, 0, 0);
        city.paint(0, 1, 3, 1, 0, 0);
        checks.is("with an EYESORE of 1", 1, city.nextBuff());
        city.clear(1);
        checks.is("with an EYESORE of 0 again", NONE, city.nextBuff());
        city.pass(1);
        checks.is("with an EYESORE of 16", 0, city.nextBuff());
    }

    private void nextBuffOfSeveral() {
        checks.stands(24, "of several the smallest number");
        Wallcode city = new Wallcode();
        city.hand(0, 9, 0, 0);
        for (int wall = 0; wall < 6; wall++) {
            city.wall(16, 1, 0, 0);
            city.paint(0, wall, 0, 4, 0, 0);
        }
        for (int wall = 0; wall < 6; wall++) {
            checks.is("alike from " + wall + " on", wall, city.nextBuff());
            city.clear(wall);
        }
        checks.is("none is left", NONE, city.nextBuff());
        checks.stands(24, "the one with the greatest EYESORE above 0");
        for (int wall = 0; wall < 6; wall++) {
            city.paint(0, wall, 0, 5 + wall, 0, 0);
            checks.is("greater than all ahead of it", wall, city.nextBuff());
        }
        for (int wall = 5; wall >= 0; wall--) {
            checks.is("the greatest one that is left", wall, city.nextBuff());
            city.clear(wall);
        }
    }

    private void nextBuffWithJustEnoughCoins() {
        checks.stands(24, "Returns of the WALLS that can be BUFFED with the COINS of now");
        for (int coins : new int[] {0, 1, 2, 15, 16, 17}) {
            for (int cells : new int[] {coins - 1, coins, coins + 1}) {
                if (Ends.isWithin(cells, 1, 16)) {
                    Wallcode city = Cities.small();
                    city.wall(16, 9, 0, 0);
                    Cities.spend(city, 0, 0, 30 - coins);
                    city.paint(0, 1, 0, cells, 0, 0);
                    String text = cells + " CELLS with " + coins + " COINS";
                    checks.is(text, cells <= coins ? 1 : NONE, city.nextBuff());
                    city.paint(0, 0, 0, 1, 0, 0);
                    int due = cells <= coins ? 1 : coins >= 1 ? 0 : NONE;
                    checks.is(text + ", or 1 CELL of less SIGHT", due, city.nextBuff());
                    city.pass(1);
                    checks.is(text + " and 5 more", cells <= coins + 5 ? 1 : 0, city.nextBuff());
                }
            }
        }
    }

    private static Wallcode cleaned(int cleaning, int night) {
        Wallcode city = new Wallcode();
        city.wall(4, 1, 0, cleaning);
        city.hand(0, 9, 0, 0);
        Cities.passTo(city, night);
        city.paint(0, 0, 0, 4, 3, 0);
        return city;
    }

    private void wouldFameOfNights() {
        checks.stands(25, "Returns its FAME, if so many NIGHTS went on (also beyond 400).");
        checks.stands(25, "Throws IllegalArgumentException if nights is not 0 to 30");
        for (int cleaning : new int[] {0, 2, 3, 19, 20}) {
            checks.ranges("wouldFame(0, #), CLEANING " + cleaning, 0, 30, () -> cleaned(cleaning, 0),
                (c, v) -> c.wouldFame(0, v), v -> cleaning != 0 && v >= cleaning ? 0 : 28, Checks.ARGUMENT);
        }
        Wallcode city = cleaned(0, 0);
        city.hand(1, 9, 0, 0);
        for (int nights = 0; nights <= 30; nights++) {
            checks.is("of a HAND without LAYERS", 0, city.wouldFame(1, nights));
        }
    }

    private void wouldFameBeyondFourHundred() {
        checks.stands(25, "(also beyond 400)");
        for (int cleaning = 2; cleaning <= 20; cleaning++) {
            int next = 400 / cleaning * cleaning + cleaning;
            int c = cleaning;
            checks.ranges("wouldFame(0, #) at NIGHT 400, CLEANING " + cleaning, 0, 30, () -> cleaned(c, 400),
                (city, v) -> city.wouldFame(0, v), v -> 400 + v >= next ? 0 : 28, Checks.ARGUMENT);
            Wallcode city = cleaned(cleaning, 400);
            for (int nights = 0; nights <= 30; nights++) {
                checks.is("wouldFame(0, " + nights + ") at NIGHT 400, CLEANING " + cleaning,
                    400 + nights >= next ? 0 : 28, city.wouldFame(0, nights));
            }
            checks.is("the NIGHT stays", 400, city.many(0));
        }
    }

    private void wouldFameOnTheNightOfACleaning() {
        checks.stands(25, "Returns its FAME, if so many NIGHTS went on");
        for (int cleaning = 2; cleaning <= 20; cleaning++) {
            Wallcode city = cleaned(cleaning, cleaning);
            checks.is("no NIGHT more, each " + cleaning, 28, city.wouldFame(0, 0));
            checks.is("up to the one ahead of the next, each " + cleaning, 28, city.wouldFame(0, cleaning - 1));
            checks.is("up to the next one, each " + cleaning, 0, city.wouldFame(0, cleaning));
            Wallcode ahead = cleaned(cleaning, 2 * cleaning - 1);
            checks.is("ahead of one, each " + cleaning, 28, ahead.wouldFame(0, 0));
            checks.is("over one, each " + cleaning, 0, ahead.wouldFame(0, 1));
        }
    }

    private void wouldFameOfNoHand() {
        checks.stands(25, "Throws IndexOutOfBoundsException if there is no such HAND");
        for (int hands : new int[] {0, 1, 7, 8}) {
            Wallcode city = Cities.withHands(hands);
            for (int hand : Ends.notBelow(hands)) {
                for (int nights : new int[] {0, 30, 31, -1}) {
                    checks.refuses("wouldFame(" + hand + ", " + nights + ")", Checks.INDEX, city,
                        () -> city.wouldFame(hand, nights));
                }
            }
        }
    }

    private void digestOfANewCity() {
        checks.stands(26, "Computes a checksum. A number d starts with 58232; for each of the following numbers v, d"
            + " becomes d * 31 + v");
        checks.stands(26, "Returns d.");
        long due = 58232L;
        int[] many = {0, 0, 0, 0, 0, 30, 0, 0, 0, 0, 0, 0};
        for (int number : many) {
            due = due * 31 + number;
        }
        checks.is("of a new city", due * 31 - 1, new Wallcode().digest());
        checks.is("once more", due * 31 - 1, new Wallcode().digest());
    }

    private void digestWrapsAround() {
        checks.stands(26, "which wraps around as a 64-bit integer: many() of 0 to 11; WALL by WALL ofWall() of 0 to 6,"
            + " CELL by CELL shows(); HAND by HAND ofHand() of 0 to 10, HAND by HAND (itself, too) wrongs() of the"
            + " first one to that, then, once, wouldFame() of the first one and 7; LAYER by LAYER ofLayer() of 0 to"
            + " 13; nextBuff(); bestFrom() of the HAND 0, the WALL 0, 2 and 1, if there are both.");
        Script[] scripts = {Script.empty(), Script.onlyWalls(), Script.onlyHands(), Script.ordinary(),
            Script.spent(), Script.full()};
        for (Script script : scripts) {
            checks.is(script.title, script.plain().digest(), script.city().digest());
        }
    }

    /** Cities in which what the digest asks with 7, or with 2 and 1, would answer otherwise beside that. */
    private void digestTakesJustTheseArguments() {
        checks.stands(26, "then, once, wouldFame() of the first one and 7");
        for (int night = 0; night <= 1; night++) {
            Script cleaned = new Script("CLEANING each 8 NIGHTS, NIGHT " + night)
                .then(Calls.WALL, 4, 1, 0, 8).then(Calls.HAND, 0, 9, 0, 0);
            for (int times = 0; times < night; times++) {
                cleaned.then(Calls.PASS, 1);
            }
            cleaned.then(Calls.PAINT, 0, 0, 0, 4, 0, 0);
            checks.is("wouldFame(0, 6)", 4, cleaned.city().wouldFame(0, 6));
            checks.is("wouldFame(0, 7)", night == 0 ? 4 : 0, cleaned.city().wouldFame(0, 7));
            checks.is("wouldFame(0, 8)", 0, cleaned.city().wouldFame(0, 8));
            checks.is(cleaned.title, cleaned.plain().digest(), cleaned.city().digest());
        }
        checks.stands(26, "bestFrom() of the HAND 0, the WALL 0, 2 and 1, if there are both.");
        Script painted = new Script("WRONGS on most CELLS").then(Calls.WALL, 6, 1, 0, 0)
            .then(Calls.HAND, 0, 9, 3, 6).then(Calls.HAND, 1, 9, 4, 5).then(Calls.PAINT, 1, 0, 1, 2, 1, 0)
            .then(Calls.PAINT, 1, 0, 3, 2, 0, 0).then(Calls.PAINT, 1, 0, 5, 1, 1, 0);
        int[][] wideKindAndDue = {{2, 1, 3}, {1, 1, 0}, {3, 1, 0}, {2, 0, 0}, {2, 2, 0}};
        for (int[] row : wideKindAndDue) {
            checks.is("bestFrom(0, 0, " + row[0] + ", " + row[1] + ")", row[2],
                painted.city().bestFrom(0, 0, row[0], row[1]));
        }
        checks.is(painted.title, painted.plain().digest(), painted.city().digest());
    }
}
