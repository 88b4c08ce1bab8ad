/** What section 3 of 'Terms' says of COINS, of what is owed and of the NIGHT, at its ends: promises 7 to 13. */
final class CoinBounds {
    private static final int NONE = -1;

    private final Checks checks;

    CoinBounds(Checks checks) {
        this.checks = checks;
    }

    void run() {
        coinsAtFirst();
        buffWithJustEnoughCoins();
        buffWithoutCoins();
        buffTakesOffWhat();
        buffCostsNothingForTheRest();
        buffOfNoWall();
        clearOwesFor();
        clearOwesForTheCellsThatShowedIt();
        clearOwesSeveralHands();
        clearWithoutAnything();
        clearOfNoWall();
        sellInEachNumberOfCells();
        sellWhatIsNotSeen();
        sellForTheOwner();
        sellOfNoLayer();
        waiveOnce();
        rememberOnce();
        waiveAndRememberOfNoLayer();
        payAll();
        payOfNoHand();
        passOnce();
        passSoManyTimes();
        passAboveFourHundred();
        passCleans();
        passCleansAtFourHundred();
        passCountsWhatWasNotBare();
    }

    private void coinsAtFirst() {
        checks.stands(20, "COINS of the city: 30 at first.");
        checks.is("many(5)", 30, new Wallcode().many(5));
        checks.is("many(5)", 30, Cities.withWalls(6).many(5));
        checks.is("many(5)", 30, Cities.withLayers(60).many(5));
    }

    private void buffWithJustEnoughCoins() {
        checks.stands(7, "BUFFS.");
        checks.stands(7, "Returns how many CELLS are BARE by that.");
        checks.stands(7, "that costs 1 for each such CELL; not without as many COINS.");
        checks.stands(7, "Throws IllegalStateException if there are not COINS enough");
        for (int coins : new int[] {0, 1, 2, 14, 15, 16, 17, 30}) {
            for (int cells : new int[] {0, 1, 2, coins - 1, coins, coins + 1, 16}) {
                if (Ends.isWithin(cells, 0, 16)) {
                    buffed(coins, cells);
                }
            }
        }
    }

    private void buffed(int coins, int cells) {
        Wallcode city = Cities.small();
        city.wall(16, 2, 0, 0);
        Cities.spend(city, 0, 0, 30 - coins);
        if (cells > 0) {
            city.paint(0, 1, 16 - cells, cells, 0, 0);
        }
        String text = "buff(1), " + cells + " CELLS with " + coins + " COINS";
        checks.is(text + ", COINS ahead", coins, city.many(5));
        if (cells <= coins) {
            checks.is(text, cells, city.buff(1));
            checks.is(text + ", COINS", coins - cells, city.many(5));
            checks.is(text + ", CELLS that show a LAYER", 0, city.ofWall(1, 4));
            checks.is(text + ", again", 0, city.buff(1));
        } else {
            checks.refuses(text, Checks.STATE, city, () -> city.buff(1));
            checks.is(text + ", COINS", coins, city.many(5));
            checks.is(text + ", CELLS that show a LAYER", cells, city.ofWall(1, 4));
            city.clear(1);
            checks.is(text + ", when all are BARE", 0, city.buff(1));
        }
    }

    private void buffWithoutCoins() {
        checks.stands(7, "Throws IllegalStateException if there are not COINS enough");
        Wallcode city = Cities.small();
        Cities.spend(city, 0, 0, 30);
        checks.is("COINS", 0, city.many(5));
        checks.is("a BARE WALL", 0, city.buff(0));
        city.paint(0, 0, 0, 6, 0, 0);
        checks.refuses("6 CELLS of 0 COINS", Checks.STATE, city, () -> city.buff(0));
        checks.refuses("of no WALL", Checks.INDEX, city, () -> city.buff(1));
        city.pass(1);
        checks.refuses("6 CELLS of 5 COINS", Checks.STATE, city, () -> city.buff(0));
        city.permit(0, 0, 400);
        city.paint(0, 0, 0, 1, 0, 0);
        checks.is("5 CELLS of 5 COINS", 5, city.buff(0));
        checks.is("COINS", 0, city.many(5));
        checks.is("the LEGAL one stays", 3, city.shows(0, 0));
    }

    private void buffTakesOffWhat() {
        checks.stands(7, "To BUFF a WALL: of each CELL that shows a LAYER that is not LEGAL, or whose CREW has not"
            + " the PERMIT there by now, this is taken off");
        for (int legal = 0; legal <= 1; legal++) {
            for (int by = NONE; by <= 3; by++) {
                Wallcode city = Cities.small();
                if (legal == 1) {
                    city.permit(0, 0, 0);
                }
                city.paint(0, 0, 0, 3, 3, 0);
                city.pass(1);
                if (by != NONE) {
                    city.permit(0, by, 1);
                }
                int due = legal == 1 && by == 0 ? 0 : 3;
                String text = "LEGAL " + legal + ", the CREW with the PERMIT by now " + by;
                checks.is(text + ", EYESORE", due, city.ofWall(0, 5));
                checks.is(text + ", buff(0)", due, city.buff(0));
                checks.is(text + ", shows(0, 0)", due == 0 ? 0 : NONE, city.shows(0, 0));
                city.pass(1);
                checks.is(text + ", a NIGHT later", 3 - due, city.buff(0));
            }
        }
    }

    private void buffCostsNothingForTheRest() {
        checks.stands(7, "that costs 1 for each such CELL; not without as many COINS.");
        Wallcode city = Cities.small();
        city.hand(1, 9, 0, 0);
        Cities.spend(city, 0, 0, 29);
        city.permit(0, 0, 0);
        city.paint(0, 0, 0, 16, 3, 0);
        checks.is("16 LEGAL CELLS with 1 COIN", 0, city.buff(0));
        city.paint(1, 0, 15, 1, 0, 0);
        checks.is("one that is not LEGAL", 1, city.buff(0));
        checks.is("COINS", 0, city.many(5));
        checks.is("the last CELL", NONE, city.shows(0, 15));
        checks.is("CELLS that show a LAYER", 15, city.ofWall(0, 4));
        city.paint(1, 0, 0, 1, 0, 0);
        checks.refuses("another one", Checks.STATE, city, () -> city.buff(0));
        checks.is("what it shows", city.many(3) - 1, city.shows(0, 0));
    }

    private void buffOfNoWall() {
        checks.stands(7, "Throws IndexOutOfBoundsException if there is no such WALL");
        for (int walls : new int[] {0, 1, 5, 6}) {
            Wallcode city = Cities.withWalls(walls);
            for (int wall : Ends.notBelow(walls)) {
                checks.refuses("buff(" + wall + ")", Checks.INDEX, city, () -> city.buff(wall));
            }
        }
        Wallcode city = Cities.withWalls(6);
        city.hand(0, 9, 0, 0);
        for (int wall = 0; wall < 6; wall++) {
            city.paint(0, wall, 0, 4, 0, 0);
        }
        checks.is("buff(5)", 4, city.buff(5));
        checks.is("buff(0)", 4, city.buff(0));
        checks.is("the others", 4, city.ofWall(1, 4));
    }

    private void clearOwesFor() {
        checks.stands(8, "CLEARS.");
        checks.stands(8, "Returns what is owed for that.");
        checks.stands(8, "To CLEAR a WALL (by its OWNER): all CELLS are BARE; for each LAYER that was shown,"
            + " is LEGAL, a PIECE or a BURNER, and not WAIVED, its HAND is owed 5 times WEIGHT times the CELLS"
            + " that showed it.");
        int[] owed = {0, 0, 20, 35};
        for (int kind = 0; kind <= 3; kind++) {
            for (int cases = 0; cases < 16; cases++) {
                boolean isLegal = cases % 2 == 1;
                boolean isWaived = cases / 2 % 2 == 1;
                int cells = cases / 4 % 2 == 1 ? 16 : 1;
                boolean ranOut = cases / 8 == 1;
                Wallcode city = Cities.small();
                city.permit(0, isLegal ? 0 : 1, 0);
                city.paint(0, 0, 0, cells, kind, 0);
                if (isWaived) {
                    city.waive(0);
                }
                if (ranOut) {
                    city.pass(1);
                }
                int due = isLegal && !isWaived ? owed[kind] * cells : 0;
                String text = "KIND " + kind + " on " + cells + (isLegal ? ", LEGAL" : "")
                    + (isWaived ? ", WAIVED" : "") + (ranOut ? ", the PERMIT ran out" : "");
                long coins = city.many(5);
                checks.is(text + ", clear(0)", due, city.clear(0));
                checks.is(text + ", ofHand(0, 9)", due, city.ofHand(0, 9));
                checks.is(text + ", many(9)", due, city.many(9));
                checks.is(text + ", COINS stay", coins, city.many(5));
                checks.is(text + ", CELLS that show a LAYER", 0, city.ofWall(0, 4));
                checks.is(text + ", again", 0, city.clear(0));
            }
        }
    }

    private void clearOwesForTheCellsThatShowedIt() {
        checks.stands(8, "its HAND is owed 5 times WEIGHT times the CELLS that showed it.");
        for (int covered = 0; covered <= 16; covered++) {
            Wallcode city = Cities.small();
            city.hand(1, 9, 0, 0);
            city.permit(0, 0, 0);
            city.paint(0, 0, 0, 16, 2, 0);
            for (int cell = 0; cell < covered; cell++) {
                city.paint(1, 0, cell * 5 % 16, 1, 3, 0);
            }
            checks.is("a PIECE with " + covered + " of 16 CELLS covered", 20 * (16 - covered), city.clear(0));
            checks.is("ofHand(0, 9)", 20 * (16 - covered), city.ofHand(0, 9));
            checks.is("ofHand(1, 9)", 0, city.ofHand(1, 9));
        }
    }

    private void clearOwesSeveralHands() {
        checks.stands(8, "its HAND is owed 5 times WEIGHT times the CELLS that showed it.");
        Wallcode city = Cities.withWalls(5);
        city.wall(16, 1, 3, 0);
        for (int hand = 0; hand < 8; hand++) {
            city.hand(hand % 4, 9, 0, 0);
        }
        int all = 0;
        for (int night = 0; night < 2; night++) {
            for (int hand = 0; hand < 8; hand++) {
                city.permit(5, hand % 4, 400);
                city.paint(hand, 5, 2 * hand, 2, 2 + hand / 4, 0);
            }
            city.waive(8 * night + 7);
            int due = 4 * 2 * 20 + 3 * 2 * 35;
            all += due;
            checks.is("clear(5)", due, city.clear(5));
            checks.is("ofHand(0, 9)", 40 * (night + 1), city.ofHand(0, 9));
            checks.is("ofHand(6, 9)", 70 * (night + 1), city.ofHand(6, 9));
            checks.is("ofHand(7, 9), WAIVED", 0, city.ofHand(7, 9));
            checks.is("many(9)", all, city.many(9));
            city.pass(1);
        }
    }

    private void clearWithoutAnything() {
        checks.stands(8, "all CELLS are BARE");
        Wallcode city = Cities.withWalls(6);
        city.hand(0, 9, 0, 0);
        city.paint(0, 0, 0, 4, 3, 0);
        for (int wall = 1; wall < 6; wall++) {
            checks.is("a BARE WALL", 0, city.clear(wall));
        }
        checks.is("the other WALL stays", 4, city.ofWall(0, 4));
        Wallcode spent = Cities.small();
        Cities.spend(spent, 0, 0, 30);
        spent.paint(0, 0, 0, 16, 0, 0);
        checks.is("without COINS", 0, spent.clear(0));
        checks.is("CELLS that show a LAYER", 0, spent.ofWall(0, 4));
    }

    private void clearOfNoWall() {
        checks.stands(8, "Throws IndexOutOfBoundsException if there is no such WALL");
        for (int walls : new int[] {0, 1, 5, 6}) {
            Wallcode city = Cities.withWalls(walls);
            for (int wall : Ends.notBelow(walls)) {
                checks.refuses("clear(" + wall + ")", Checks.INDEX, city, () -> city.clear(wall));
            }
        }
    }

    private void sellInEachNumberOfCells() {
        checks.stands(9, "SELLS.");
        checks.stands(9, "Returns the PRICE that it had.");
        checks.stands(9, "To SELL a LAYER that is SEEN: it is cut out: the CELLS that show it are BARE");
        checks.stands(9, "Throws IllegalStateException if it is not SEEN");
        for (int covered = 0; covered <= 16; covered++) {
            Wallcode city = Cities.small();
            city.hand(1, 9, 0, 0);
            city.paint(0, 0, 0, 16, 0, 0);
            for (int cell = 0; cell < covered; cell++) {
                city.paint(1, 0, cell * 5 % 16, 1, 0, 0);
            }
            int seen = 16 - covered;
            if (seen > 0) {
                int price = seen * (seen >= 10 ? 11 : 10);
                checks.is("SEEN in " + seen, price, city.sell(0));
                checks.is("many(10)", price, city.many(10));
            }
            checks.refuses("SEEN in none, behind " + seen, Checks.STATE, city, () -> city.sell(0));
            checks.is("CELLS that show a LAYER", covered, city.ofWall(0, 4));
            checks.is("SEEN behind it", 0, city.ofLayer(0, 9));
            checks.is("its PRICE behind it", 0, city.ofLayer(0, 12));
        }
    }

    private void sellWhatIsNotSeen() {
        checks.stands(9, "Throws IllegalStateException if it is not SEEN");
        for (int way = 0; way < 4; way++) {
            Wallcode city = new Wallcode();
            city.wall(16, 1, 0, 2);
            city.hand(0, 9, 3, 6);
            city.paint(0, 0, 0, 16, 0, 0);
            if (way == 0) {
                city.buff(0);
            } else if (way == 1) {
                city.clear(0);
            } else if (way == 2) {
                city.pass(2);
            } else {
                city.paint(0, 0, 0, 16, 0, 0);
            }
            checks.refuses("not SEEN in way " + way, Checks.STATE, city, () -> city.sell(0));
            checks.is("many(10)", 0, city.many(10));
        }
    }

    private void sellForTheOwner() {
        checks.stands(9, "the PRICE goes to the OWNER.");
        Wallcode city = new Wallcode();
        int all = 0;
        city.hand(0, 9, 3, 6);
        for (int owner = 0; owner <= 3; owner++) {
            city.wall(4, 1, owner, 0);
            city.paint(0, owner, 3, 1, 0, 0);
            if (owner == 1) {
                city.remember(owner);
            }
            if (owner == 2) {
                city.waive(owner);
            }
            all += 10;
            checks.is("of OWNER " + owner, 10, city.sell(owner));
            checks.is("many(10)", all, city.many(10));
            checks.is("COINS stay", 30, city.many(5));
            checks.is("what is owed", 0, city.many(9));
        }
    }

    private void sellOfNoLayer() {
        checks.stands(9, "Throws IndexOutOfBoundsException if there is no such LAYER");
        for (int layers : new int[] {0, 1, 59, 60}) {
            Wallcode city = Cities.withLayers(layers);
            for (int layer : Ends.notBelow(layers)) {
                checks.refuses("sell(" + layer + ")", Checks.INDEX, city, () -> city.sell(layer));
            }
        }
        checks.is("sell(59)", 11, Cities.withLayers(60).sell(59));
    }

    private void waiveOnce() {
        checks.stands(10, "WAIVES the rights of a LAYER.");
        checks.stands(10, "Returns whether they were not WAIVED.");
        Wallcode city = Cities.withLayers(60);
        city.clear(0);
        for (int layer : new int[] {0, 1, 58, 59}) {
            checks.is("ofLayer(" + layer + ", 7)", 0, city.ofLayer(layer, 7));
            checks.isTrue("waive(" + layer + ")", city.waive(layer));
            checks.is("ofLayer(" + layer + ", 7)", 1, city.ofLayer(layer, 7));
            checks.isTrue("waive(" + layer + ") again", !city.waive(layer));
            checks.is("ofLayer(" + layer + ", 7)", 1, city.ofLayer(layer, 7));
            checks.is("ofLayer(" + layer + ", 8)", 0, city.ofLayer(layer, 8));
        }
        checks.is("ofLayer(2, 7)", 0, city.ofLayer(2, 7));
    }

    private void rememberOnce() {
        checks.stands(11, "Makes a LAYER a MEMORIAL, from now on.");
        checks.stands(11, "Returns whether it was none.");
        Wallcode city = Cities.withLayers(60);
        city.clear(0);
        for (int layer : new int[] {0, 1, 58, 59}) {
            checks.is("ofLayer(" + layer + ", 8)", 0, city.ofLayer(layer, 8));
            checks.isTrue("remember(" + layer + ")", city.remember(layer));
            checks.is("ofLayer(" + layer + ", 8)", 1, city.ofLayer(layer, 8));
            checks.isTrue("remember(" + layer + ") again", !city.remember(layer));
            checks.is("ofLayer(" + layer + ", 7)", 0, city.ofLayer(layer, 7));
        }
        Cities.passTo(city, 400);
        checks.is("at NIGHT 400", 1, city.ofLayer(59, 8));
        Wallcode later = Cities.small();
        later.hand(0, 9, 0, 0);
        later.paint(0, 0, 0, 2, 0, 0);
        checks.is("what was done ahead of it is no WRONG", 0, later.paint(1, 0, 0, 1, 0, 0));
        later.remember(0);
        checks.is("many(6)", 0, later.many(6));
        checks.is("from now on", 1, later.paint(1, 0, 1, 1, 0, 0));
    }

    private void waiveAndRememberOfNoLayer() {
        for (int layers : new int[] {0, 1, 59, 60}) {
            Wallcode city = Cities.withLayers(layers);
            for (int layer : Ends.notBelow(layers)) {
                checks.stands(10, "Throws IndexOutOfBoundsException if there is no such LAYER");
                checks.refuses("waive(" + layer + ")", Checks.INDEX, city, () -> city.waive(layer) ? 1 : 0);
                checks.stands(11, "Throws IndexOutOfBoundsException if there is no such LAYER");
                checks.refuses("remember(" + layer + ")", Checks.INDEX, city, () -> city.remember(layer) ? 1 : 0);
            }
        }
    }

    private void payAll() {
        checks.stands(12, "A HAND pays its FINES (COINS stay).");
        checks.stands(12, "Returns how much.");
        Wallcode city = Cities.small();
        city.hand(1, 9, 0, 0);
        city.watch(0, 0, 359);
        checks.is("without FINES", 0, city.pay(0));
        city.paint(0, 0, 0, 1, 0, 0);
        city.paint(1, 0, 0, 1, 3, 0);
        checks.is("pay(0)", 20, city.pay(0));
        checks.is("pay(0) again", 0, city.pay(0));
        checks.is("FINES of 1", 50, city.ofHand(1, 2));
        city.paint(1, 0, 0, 1, 1, 0);
        checks.is("pay(1)", 80, city.pay(1));
        checks.is("many(8)", 0, city.many(8));
        checks.is("COINS stay", 30, city.many(5));
        Cities.spend(city, 0, 0, 30);
        checks.is("FINES of two TAGS", 40, city.pay(0));
        checks.is("COINS stay at 0", 0, city.many(5));
        checks.is("still KNOWN", 2, city.many(7));
    }

    private void payOfNoHand() {
        checks.stands(12, "Throws IndexOutOfBoundsException if there is no such HAND");
        for (int hands : new int[] {0, 1, 7, 8}) {
            Wallcode city = Cities.withHands(hands);
            for (int hand : Ends.notBelow(hands)) {
                checks.refuses("pay(" + hand + ")", Checks.INDEX, city, () -> city.pay(hand));
            }
        }
        checks.is("pay(7)", 0, Cities.withHands(8).pay(7));
    }

    private void passOnce() {
        checks.stands(13, "The NIGHT goes on: it is 1 more, all HANDS have 360 minutes, COINS are 5 more");
        Wallcode city = Cities.withWalls(5);
        city.wall(16, 1, 0, 0);
        for (int hand = 0; hand < 8; hand++) {
            city.hand(0, 9, 0, 0);
            Cities.useUp(city, hand, 5, hand < 4 ? 360 : hand);
        }
        checks.is("without a CLEANING", 0, city.pass(1));
        checks.is("many(0)", 1, city.many(0));
        checks.is("many(5)", 35, city.many(5));
        for (int hand = 0; hand < 8; hand++) {
            checks.is("ofHand(" + hand + ", 1)", 360, city.ofHand(hand, 1));
        }
        Wallcode spent = Cities.small();
        Cities.spend(spent, 0, 0, 30);
        spent.pass(1);
        checks.is("5 more than 0", 5, spent.many(5));
        Wallcode nothing = new Wallcode();
        checks.is("without WALLS and HANDS", 0, nothing.pass(30));
        checks.is("COINS then", 180, nothing.many(5));
    }

    private void passSoManyTimes() {
        checks.stands(13, "The NIGHT goes on.");
        checks.stands(13, "Throws IllegalArgumentException if nights is not 1 to 30");
        checks.ranges("pass(#)", 1, 30, Cities::small, (c, v) -> c.pass(v), v -> 0, Checks.ARGUMENT);
        checks.ranges("pass(#) at NIGHT 370", 1, 30, () -> Cities.small(370), (c, v) -> c.pass(v), v -> 0,
            Checks.ARGUMENT);
        for (int nights = 1; nights <= 30; nights++) {
            Wallcode city = Cities.small();
            city.pass(nights);
            checks.is("many(0) behind pass(" + nights + ")", nights, city.many(0));
            checks.is("many(5) behind pass(" + nights + ")", 30 + 5 * nights, city.many(5));
        }
    }

    private void passAboveFourHundred() {
        checks.stands(13, "Throws IllegalStateException if the NIGHT would be above 400");
        for (int night : new int[] {369, 370, 371, 385, 398, 399, 400}) {
            for (int nights : new int[] {1, 2, 15, 29, 30, 400 - night, 401 - night}) {
                if (Ends.isWithin(nights, 1, 30)) {
                    Wallcode city = Cities.small(night);
                    String text = "pass(" + nights + ") at NIGHT " + night;
                    if (night + nights <= 400) {
                        checks.is(text, 0, city.pass(nights));
                        checks.is(text + ", many(0)", night + nights, city.many(0));
                    } else {
                        checks.refuses(text, Checks.STATE, city, () -> city.pass(nights));
                        checks.is(text + ", many(0)", night, city.many(0));
                    }
                }
            }
        }
        Wallcode city = Cities.small(400);
        checks.is("COINS at NIGHT 400", 2030, city.many(5));
        for (int nights : new int[] {0, -1, -400, 31, 32, 400, Ends.MIN, Ends.MIN + 1, Ends.MAX - 400, Ends.MAX}) {
            checks.refuses("pass(" + nights + ") at NIGHT 400", Checks.ARGUMENT, city, () -> city.pass(nights));
        }
    }

    private void passCleans() {
        checks.stands(13, "then each WALL with a CLEANING each c NIGHTS, if the NIGHT can be divided by c, is BARE.");
        for (int c = 2; c <= 20; c++) {
            for (int night : new int[] {0, 1, c - 1, c, c + 1, 2 * c - 1, 2 * c}) {
                for (int nights : new int[] {1, 2, c - 1, c, 30}) {
                    Wallcode city = new Wallcode();
                    city.wall(4, 1, 0, c);
                    city.wall(4, 1, 0, 0);
                    city.hand(0, 9, 0, 0);
                    Cities.passTo(city, night);
                    city.paint(0, 0, 0, 4, 0, 0);
                    city.paint(0, 1, 0, 4, 0, 0);
                    boolean isCleaned = false;
                    for (int then = night + 1; then <= night + nights; then++) {
                        isCleaned |= then % c == 0;
                    }
                    String text = "each " + c + ", NIGHT " + night + ", ";
                    checks.is(text + "wouldFame(0, " + nights + ")", isCleaned ? 4 : 8,
                        city.wouldFame(0, nights));
                    checks.is(text + "pass(" + nights + ")", isCleaned ? 4 : 0, city.pass(nights));
                    checks.is(text + "shows(0, 0)", isCleaned ? NONE : 0, city.shows(0, 0));
                    checks.is(text + "shows(1, 0)", 1, city.shows(1, 0));
                }
            }
        }
    }

    private void passCleansAtFourHundred() {
        checks.stands(13, "then each WALL with a CLEANING each c NIGHTS, if the NIGHT can be divided by c, is BARE.");
        for (int c = 2; c <= 20; c++) {
            Wallcode city = new Wallcode();
            city.wall(4, 1, 0, c);
            city.hand(0, 9, 0, 0);
            Cities.passTo(city, 399);
            city.permit(0, 0, 400);
            city.paint(0, 0, 1, 2, 3, 0);
            city.remember(0);
            boolean isCleaned = c == 2 || c == 4 || c == 5 || c == 8 || c == 10 || c == 16 || c == 20;
            checks.is("each " + c + ", pass(1) to 400", isCleaned ? 2 : 0, city.pass(1));
            checks.is("each " + c + ", shows(0, 2)", isCleaned ? NONE : 0, city.shows(0, 2));
            checks.is("what is owed", 0, city.many(9));
        }
    }

    private void passCountsWhatWasNotBare() {
        checks.stands(13, "Returns how many CELLS CLEANINGS made BARE (that were not).");
        Wallcode city = new Wallcode();
        int[] cells = {0, 1, 4, 15, 16, 7};
        city.hand(0, 9, 0, 0);
        for (int wall = 0; wall < 6; wall++) {
            city.wall(16, 1, 0, wall == 5 ? 3 : 2);
            if (cells[wall] > 0) {
                city.paint(0, wall, 16 - cells[wall], cells[wall], 0, 0);
            }
        }
        checks.is("NIGHT 1", 0, city.pass(1));
        checks.is("NIGHT 2, five WALLS", 0 + 1 + 4 + 15 + 16, city.pass(1));
        checks.is("NIGHTS 3 to 12, each CELL once", 7, city.pass(10));
        city.paint(0, 0, 0, 16, 0, 0);
        city.paint(0, 5, 0, 16, 0, 0);
        city.paint(0, 5, 0, 8, 0, 0);
        checks.is("NIGHTS 13 to 15, each CELL once, whatever was painted there", 32, city.pass(3));
    }
}
