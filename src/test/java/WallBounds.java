/** What section 1 of 'Terms' says of WALLS, PERMITS and WATCHES, at its ends: promises 1, 2, 4 and 5. */
final class WallBounds {
    private static final int NONE = -1;

    private final Checks checks;

    WallBounds(Checks checks) {
        this.checks = checks;
    }

    void run() {
        aNewCityIsWithoutWalls();
        thereAreAtMostSix();
        whatIsNotSoComesFirst();
        widths();
        sights();
        owners();
        cleanings();
        noCleaning();
        permitsForCrews();
        permitsUpToTheNight();
        permitsUpToFourHundred();
        permitsRunOut();
        permitsOfNoWall();
        watchesFromTo();
        watchesOfNoWall();
        watchesIncludeBothEnds();
        neitherAtFirst();
        aLaterPermitTakesThePlace();
        aLaterWatchTakesThePlace();
    }

    private void aNewCityIsWithoutWalls() {
        checks.stands(1, "Creates a city without WALLS.");
        Wallcode city = new Wallcode();
        checks.is("many(1)", 0, city.many(1));
        for (int wall : Ends.notBelow(0)) {
            checks.refuses("ofWall(" + wall + ", 0)", Checks.INDEX, city, () -> city.ofWall(wall, 0));
        }
        Wallcode other = new Wallcode();
        other.wall(4, 1, 0, 0);
        checks.is("many(1), when another city has a WALL", 0, city.many(1));
    }

    private void thereAreAtMostSix() {
        checks.stands(2, "WALLS: at most 6, numbered from 0");
        checks.stands(2, "Tells a WALL.");
        checks.stands(2, "Returns its number.");
        for (int walls = 0; walls < 6; walls++) {
            Wallcode city = Cities.withWalls(walls);
            checks.is("many(1)", walls, city.many(1));
            for (int wall : Ends.notBelow(walls)) {
                checks.refuses("ofWall(" + wall + ", 0)", Checks.INDEX, city, () -> city.ofWall(wall, 0));
            }
            checks.is("one WALL more", walls, city.wall(16, 9, 3, 20));
            checks.is("its WIDTH", 16, city.ofWall(walls, 0));
            checks.is("WALLS", walls + 1, city.many(1));
        }
        checks.stands(2, "Throws IllegalStateException if there are 6");
        Wallcode city = Cities.withWalls(6);
        checks.refuses("a seventh WALL", Checks.STATE, city, () -> city.wall(4, 1, 0, 0));
        checks.refuses("an eighth WALL", Checks.STATE, city, () -> city.wall(16, 9, 3, 20));
        checks.is("many(1)", 6, city.many(1));
        for (int wall = 0; wall < 6; wall++) {
            checks.is("WIDTH of " + wall, 4 + wall, city.ofWall(wall, 0));
        }
    }

    private void whatIsNotSoComesFirst() {
        checks.stands(2, "Throws IllegalArgumentException if one of these is not as section 1 says");
        Wallcode city = Cities.withWalls(6);
        int[][] bad = {{3, 1, 0, 0}, {17, 1, 0, 0}, {4, 0, 0, 0}, {4, 10, 0, 0}, {4, 1, -1, 0}, {4, 1, 4, 0},
            {4, 1, 0, -1}, {4, 1, 0, 1}, {4, 1, 0, 21}, {Ends.MIN, Ends.MIN, Ends.MIN, Ends.MIN}};
        for (int[] b : bad) {
            checks.refuses(Calls.text(Calls.WALL, b) + " with 6 WALLS", Checks.ARGUMENT, city,
                () -> city.wall(b[0], b[1], b[2], b[3]));
        }
    }

    private void widths() {
        checks.stands(2, "each with a WIDTH (4 to 16 CELLS, numbered from 0)");
        checks.ranges("wall(#, 1, 0, 0)", 4, 16, Wallcode::new, (c, v) -> c.wall(v, 1, 0, 0), v -> 0,
            Checks.ARGUMENT);
        for (int width = 4; width <= 16; width++) {
            Wallcode city = new Wallcode();
            city.wall(width, 1, 0, 0);
            checks.is("ofWall(0, 0)", width, city.ofWall(0, 0));
            for (int cell = 0; cell < width; cell++) {
                checks.is("shows(0, " + cell + ")", NONE, city.shows(0, cell));
            }
            for (int cell : Ends.notBelow(width)) {
                checks.refuses("shows(0, " + cell + ")", Checks.INDEX, city, () -> city.shows(0, cell));
            }
        }
    }

    private void sights() {
        checks.stands(2, "a SIGHT (1 to 9)");
        checks.ranges("wall(4, #, 0, 0)", 1, 9, Wallcode::new, (c, v) -> c.wall(4, v, 0, 0), v -> 0,
            Checks.ARGUMENT);
        for (int sight = 1; sight <= 9; sight++) {
            Wallcode city = new Wallcode();
            city.wall(4, sight, 0, 0);
            checks.is("ofWall(0, 1)", sight, city.ofWall(0, 1));
        }
    }

    private void owners() {
        checks.stands(2, "an OWNER (0 to 3)");
        checks.ranges("wall(4, 1, #, 0)", 0, 3, Wallcode::new, (c, v) -> c.wall(4, 1, v, 0), v -> 0,
            Checks.ARGUMENT);
        for (int owner = 0; owner <= 3; owner++) {
            Wallcode city = new Wallcode();
            city.wall(4, 1, owner, 0);
            checks.is("ofWall(0, 2)", owner, city.ofWall(0, 2));
        }
    }

    private void cleanings() {
        checks.stands(2, "and a CLEANING each so many NIGHTS (0: never; otherwise 2 to 20)");
        for (int cleaning : Ends.around(2, 20)) {
            Wallcode city = new Wallcode();
            String text = Calls.text(Calls.WALL, 4, 1, 0, cleaning);
            if (cleaning == 0 || Ends.isWithin(cleaning, 2, 20)) {
                checks.is(text, 0, city.wall(4, 1, 0, cleaning));
            } else {
                checks.refuses(text, Checks.ARGUMENT, city, () -> city.wall(4, 1, 0, cleaning));
            }
        }
        for (int cleaning = 2; cleaning <= 20; cleaning++) {
            Wallcode city = new Wallcode();
            city.wall(4, 1, 0, cleaning);
            city.hand(0, 9, 0, 0);
            city.paint(0, 0, 3, 1, 0, 0);
            for (int night = 1; night < cleaning; night++) {
                checks.is("each " + cleaning + ", pass(1) to NIGHT " + night, 0, city.pass(1));
            }
            checks.is("each " + cleaning + ", pass(1) to that NIGHT", 1, city.pass(1));
            checks.is("each " + cleaning + ", what is shown then", NONE, city.shows(0, 3));
        }
    }

    private void noCleaning() {
        checks.stands(2, "and a CLEANING each so many NIGHTS (0: never; otherwise 2 to 20)");
        Wallcode city = new Wallcode();
        checks.is("wall(4, 1, 0, 0)", 0, city.wall(4, 1, 0, 0));
        city.hand(0, 9, 0, 0);
        city.paint(0, 0, 3, 1, 0, 0);
        checks.is("never, pass(1)", 0, city.pass(1));
        Cities.passTo(city, 399);
        checks.is("never, pass(1) to NIGHT 400", 0, city.pass(1));
        checks.is("never, shows(0, 3)", 0, city.shows(0, 3));
        checks.is("never, wouldFame(0, 30)", 1, city.wouldFame(0, 30));
    }

    private void permitsForCrews() {
        checks.stands(4, "Tells a PERMIT.");
        checks.stands(4, "Throws IllegalArgumentException if crew is not 0 to 3, or night is below the NIGHT,"
            + " or above 400");
        checks.ranges("permit(0, #, 0)", 0, 3, () -> Cities.withWalls(1), (c, v) -> c.permit(0, v, 0),
            v -> NONE, Checks.ARGUMENT);
        for (int crew = 0; crew <= 3; crew++) {
            Wallcode city = Cities.withWalls(1);
            city.permit(0, crew, 0);
            checks.is("the CREW with it", crew, city.ofWall(0, 3));
            for (int hand = 0; hand <= 3; hand++) {
                city.hand(hand, 9, 0, 0);
                city.paint(hand, 0, hand, 1, 0, 0);
                checks.is("CREW " + hand + " is LEGAL, " + crew + " has it", hand == crew ? 1 : 0,
                    city.ofLayer(hand, 6));
            }
        }
    }

    private void permitsUpToTheNight() {
        checks.stands(4, "Throws IllegalArgumentException if crew is not 0 to 3, or night is below the NIGHT,"
            + " or above 400");
        for (int night : new int[] {0, 1, 2, 30, 199, 398, 399, 400}) {
            checks.ranges("permit(0, 2, #) at NIGHT " + night, night, 400, () -> Cities.small(night),
                (c, v) -> c.permit(0, 2, v), v -> NONE, Checks.ARGUMENT);
            Wallcode city = Cities.small(night);
            city.permit(0, 1, night);
            for (int bad : new int[] {night - 1, 401, 402, Ends.MIN, Ends.MAX}) {
                checks.refuses("permit(0, 2, " + bad + ") at NIGHT " + night, Checks.ARGUMENT, city,
                    () -> city.permit(0, 2, bad));
            }
            checks.is("the CREW that had it has it", 1, city.ofWall(0, 3));
        }
    }

    private void permitsUpToFourHundred() {
        checks.stands(4, "A WALL can have a PERMIT for a CREW, up to a NIGHT (that one, too)");
        Wallcode city = Cities.small();
        city.permit(0, 0, 400);
        Cities.passTo(city, 400);
        checks.is("up to 400, at NIGHT 400", 0, city.ofWall(0, 3));
        city.paint(0, 0, 0, 1, 0, 0);
        checks.is("LEGAL at NIGHT 400", 1, city.ofLayer(0, 6));
        checks.is("permit(0, 3, 400) at NIGHT 400", 0, city.permit(0, 3, 400));
        checks.is("it has it", 3, city.ofWall(0, 3));
    }

    private void permitsRunOut() {
        checks.stands(4, "A WALL can have a PERMIT for a CREW, up to a NIGHT (that one, too)");
        checks.stands(4, "Returns the CREW that had the PERMIT by now (NONE, also if it ran out).");
        for (int upTo : new int[] {0, 1, 2, 30, 399}) {
            Wallcode city = Cities.small();
            checks.is("permit(0, 0, " + upTo + ")", NONE, city.permit(0, 0, upTo));
            Cities.passTo(city, upTo);
            checks.is("in its last NIGHT " + upTo, 0, city.ofWall(0, 3));
            city.paint(0, 0, 0, 1, 0, 0);
            checks.is("LEGAL in NIGHT " + upTo, 1, city.ofLayer(0, 6));
            city.pass(1);
            checks.is("in the NIGHT behind " + upTo, NONE, city.ofWall(0, 3));
            city.paint(0, 0, 0, 1, 0, 0);
            checks.is("LEGAL in the NIGHT behind " + upTo, 0, city.ofLayer(1, 6));
            checks.is("the CREW that had it, when it ran out", NONE, city.permit(0, 1, upTo + 1));
            checks.is("the CREW that had it in its last NIGHT", 1, city.permit(0, 2, 400));
            checks.is("the CREW that had it for longer", 2, city.permit(0, 2, 400));
        }
    }

    private void permitsOfNoWall() {
        checks.stands(4, "Throws IndexOutOfBoundsException if there is no such WALL");
        for (int walls : new int[] {0, 1, 5, 6}) {
            Wallcode city = Cities.withWalls(walls);
            for (int wall : Ends.notBelow(walls)) {
                checks.refuses("permit(" + wall + ", 0, 0)", Checks.INDEX, city, () -> city.permit(wall, 0, 0));
                checks.refuses("permit(" + wall + ", 4, -1)", Checks.INDEX, city, () -> city.permit(wall, 4, -1));
            }
        }
        Wallcode city = Cities.withWalls(6);
        checks.is("permit(5, 0, 0)", NONE, city.permit(5, 0, 0));
        checks.is("permit(0, 1, 0)", NONE, city.permit(0, 1, 0));
    }

    private void watchesFromTo() {
        checks.stands(5, "Tells a WATCH.");
        checks.stands(5, "Returns how many minutes it has.");
        checks.stands(5, "Throws IllegalArgumentException if from is not 0 to 359, or to not from to 359");
        checks.ranges("watch(0, #, 359)", 0, 359, () -> Cities.withWalls(1), (c, v) -> c.watch(0, v, 359),
            v -> 360 - v, Checks.ARGUMENT);
        for (int from : new int[] {0, 1, 180, 358, 359}) {
            for (int to : Ends.around(from, 359)) {
                Wallcode city = Cities.withWalls(1);
                String text = Calls.text(Calls.WATCH, 0, from, to);
                if (from <= to && to <= 359) {
                    checks.is(text, to - from + 1, city.watch(0, from, to));
                } else {
                    checks.refuses(text, Checks.ARGUMENT, city, () -> city.watch(0, from, to));
                }
            }
        }
        int[][] bad = {{-1, -1}, {360, 360}, {Ends.MIN, Ends.MIN}, {Ends.MAX, Ends.MAX}, {Ends.MIN, Ends.MAX},
            {Ends.MAX, Ends.MIN}, {360, 359}, {-1, 0}, {359, 358}, {1, 0}};
        Wallcode city = Cities.withWalls(1);
        for (int[] b : bad) {
            checks.refuses(Calls.text(Calls.WATCH, 0, b[0], b[1]), Checks.ARGUMENT, city,
                () -> city.watch(0, b[0], b[1]));
        }
    }

    private void watchesOfNoWall() {
        checks.stands(5, "Throws IndexOutOfBoundsException if there is no such WALL");
        for (int walls : new int[] {0, 1, 5, 6}) {
            Wallcode city = Cities.withWalls(walls);
            for (int wall : Ends.notBelow(walls)) {
                checks.refuses("watch(" + wall + ", 0, 0)", Checks.INDEX, city, () -> city.watch(wall, 0, 0));
                checks.refuses("watch(" + wall + ", 1, 0)", Checks.INDEX, city, () -> city.watch(wall, 1, 0));
            }
        }
        checks.is("watch(5, 0, 0)", 1, Cities.withWalls(6).watch(5, 0, 0));
    }

    private void watchesIncludeBothEnds() {
        checks.stands(5, "and a WATCH from a minute of each NIGHT (0 to 359) to another one (both included)");
        int[][] watches = {{0, 0}, {0, 1}, {0, 359}, {1, 358}, {100, 100}, {100, 200}, {358, 359}, {359, 359}};
        for (int[] w : watches) {
            int[] minutes = {0, w[0] - 1, w[0], w[0] + 1, w[1] - 1, w[1], w[1] + 1, 359};
            for (int minute : minutes) {
                if (Ends.isWithin(minute, 0, 359)) {
                    caughtInMinute(minute, w[0], w[1], 0);
                    caughtInMinute(minute, w[0], w[1], 7);
                }
            }
        }
    }

    /** A TAG of one CELL with SPEED 9 takes this one minute. */
    private void caughtInMinute(int minute, int from, int to, int night) {
        Wallcode city = Cities.small();
        city.wall(4, 1, 0, 0);
        city.watch(1, from, to);
        Cities.passTo(city, night);
        Cities.useUp(city, 0, 0, minute);
        String text = "minute " + minute + " of NIGHT " + night + ", WATCH " + from + " to " + to;
        checks.is(text + ", ahead of it", 0, city.ofHand(0, 10));
        city.paint(0, 1, 0, 1, 0, 0);
        boolean isCaught = from <= minute && minute <= to;
        checks.is(text + ", CAUGHT", isCaught ? 1 : 0, city.ofHand(0, 10));
        checks.is(text + ", FINES", isCaught ? 20 : 0, city.ofHand(0, 2));
        checks.is(text + ", KNOWN", isCaught ? 1 : 0, city.ofHand(0, 3));
    }

    private void neitherAtFirst() {
        checks.stands(4, "neither at first");
        Wallcode city = Cities.small();
        checks.is("the CREW with the PERMIT", NONE, city.ofWall(0, 3));
        Cities.useUp(city, 0, 0, 360);
        checks.is("minutes left", 0, city.ofHand(0, 1));
        checks.is("LAYERS", 3, city.many(3));
        for (int layer = 0; layer < 3; layer++) {
            checks.is("LEGAL", 0, city.ofLayer(layer, 6));
        }
        checks.stands(5, "neither at first");
        checks.is("CAUGHT in 360 minutes", 0, city.ofHand(0, 10));
        city.permit(0, 0, 400);
        city.watch(0, 0, 359);
        city.wall(4, 1, 0, 0);
        city.pass(1);
        city.paint(0, 1, 0, 1, 0, 0);
        checks.is("CAUGHT on a new WALL", 0, city.ofHand(0, 10));
        checks.is("LEGAL on a new WALL", 0, city.ofLayer(3, 6));
    }

    private void aLaterPermitTakesThePlace() {
        checks.stands(4, "one told later takes the place of the former");
        Wallcode city = Cities.small();
        city.hand(1, 9, 0, 0);
        city.permit(0, 0, 400);
        checks.is("of another CREW, for less long", 0, city.permit(0, 1, 0));
        city.paint(0, 0, 0, 1, 0, 0);
        city.paint(1, 0, 0, 1, 0, 0);
        checks.is("the former CREW is LEGAL", 0, city.ofLayer(0, 6));
        checks.is("the later CREW is LEGAL", 1, city.ofLayer(1, 6));
        city.pass(1);
        checks.is("the former one does not come back", NONE, city.ofWall(0, 3));
        checks.is("nor is it answered", NONE, city.permit(0, 0, 400));
        checks.is("of the same CREW, for less long", 0, city.permit(0, 0, 1));
        city.pass(1);
        checks.is("it ran out", NONE, city.ofWall(0, 3));
    }

    private void aLaterWatchTakesThePlace() {
        checks.stands(5, "one told later takes the place of the former");
        int[][] laterAndDue = {{1, 359, 0}, {0, 0, 1}, {0, 359, 1}, {359, 359, 0}};
        for (int[] row : laterAndDue) {
            Wallcode city = Cities.small();
            city.watch(0, 0, 10);
            checks.is("minutes of the later one", row[1] - row[0] + 1, city.watch(0, row[0], row[1]));
            city.paint(0, 0, 0, 1, 0, 0);
            checks.is("minute 0, WATCH " + row[0] + " to " + row[1], row[2], city.ofHand(0, 10));
        }
    }
}
