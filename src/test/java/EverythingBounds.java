/**
 * Every call in a city with nothing there yet, in one with WALLS or HANDS alone, and in one with all that there
 * can be, each answer compared to that of the plain city; and a run of all its 512 calls.
 */
final class EverythingBounds {
    private final Checks checks;

    EverythingBounds(Checks checks) {
        this.checks = checks;
    }

    void run() {
        nothingThereYet();
        theEndsAreReached();
        Script[] scripts = {Script.empty(), Script.onlyWalls(), Script.onlyHands(), Script.ordinary(),
            Script.spent(), Script.full()};
        for (Script script : scripts) {
            script.check(checks);
            askEverything(script);
        }
        doEverythingInTheFullCity();
        fiveHundredAndTwelveCalls();
    }

    private void nothingThereYet() {
        checks.stands(1, "Creates a city without WALLS.");
        Object[][] callsAndDue = {
            {Calls.PERMIT, new int[] {0, 0, 0}, Checks.INDEX}, {Calls.WATCH, new int[] {0, 0, 0}, Checks.INDEX},
            {Calls.PAINT, new int[] {0, 0, 0, 1, 0, 0}, Checks.INDEX}, {Calls.BUFF, new int[] {0}, Checks.INDEX},
            {Calls.CLEAR, new int[] {0}, Checks.INDEX}, {Calls.SELL, new int[] {0}, Checks.INDEX},
            {Calls.WAIVE, new int[] {0}, Checks.INDEX}, {Calls.REMEMBER, new int[] {0}, Checks.INDEX},
            {Calls.PAY, new int[] {0}, Checks.INDEX}, {Calls.OF_WALL, new int[] {0, 0}, Checks.INDEX},
            {Calls.SHOWS, new int[] {0, 0}, Checks.INDEX}, {Calls.OF_HAND, new int[] {0, 0}, Checks.INDEX},
            {Calls.OF_LAYER, new int[] {0, 0}, Checks.INDEX}, {Calls.WRONGS, new int[] {0, 0}, Checks.INDEX},
            {Calls.LIKENESS, new int[] {0, 0}, Checks.INDEX},
            {Calls.BEST_FROM, new int[] {0, 0, 1, 0}, Checks.INDEX},
            {Calls.WOULD_WRONG, new int[] {0, 0, 0, 1, 0}, Checks.INDEX},
            {Calls.WOULD_FAME, new int[] {0, 0}, Checks.INDEX},
            {Calls.PASS, new int[] {1}, "0"}, {Calls.MANY, new int[] {0}, "0"}, {Calls.MEAN_FAME, new int[] {}, "0.0"},
            {Calls.NEXT_BUFF, new int[] {}, "-1"}, {Calls.WALL, new int[] {4, 1, 0, 0}, "0"},
            {Calls.HAND, new int[] {0, 1, 0, 0}, "0"},
        };
        for (Object[] row : callsAndDue) {
            int call = (Integer) row[0];
            int[] arguments = (int[]) row[1];
            boolean isRefused = row[2] instanceof Class;
            String due = isRefused ? "throws." + ((Class<?>) row[2]).getSimpleName() : (String) row[2];
            checks.isText(Calls.text(call, arguments), due, Calls.answer(new Wallcode(), call, arguments));
        }
    }

    private void theEndsAreReached() {
        checks.stands(20, "0 NIGHT, 1 WALLS, 2 HANDS, 3 LAYERS");
        Wallcode full = Script.full().city();
        int[] due = {400, 6, 8, 60};
        for (int what = 0; what < due.length; what++) {
            checks.is("many(" + what + ") of the full city", due[what], full.many(what));
        }
        checks.is("minutes left of HAND 0 in the full city", 0, full.ofHand(0, 1));
        Wallcode spent = Script.spent().city();
        checks.is("COINS of the city without", 0, spent.many(5));
        checks.is("minutes left of HAND 0 in the city without", 0, spent.ofHand(0, 1));
    }

    private void ask(Script script, PlainCity plain, int call, int... arguments) {
        checks.isText(script.title + ": " + Calls.text(call, arguments), Calls.due(plain, call, arguments),
            Calls.answer(script.cityFor(1), call, arguments));
    }

    /** All that can be asked, with each number that there is and one beside both ends. */
    private void askEverything(Script script) {
        PlainCity plain = script.plain();
        int walls = plain.many(1);
        int hands = plain.many(2);
        int layers = plain.many(3);
        checks.stands(14, "Returns that.");
        askPairs(script, plain, Calls.OF_WALL, walls, 7);
        checks.stands(15, "Returns the LAYER that it shows (NONE).");
        askPairs(script, plain, Calls.SHOWS, walls, 16);
        checks.stands(16, "Returns that.");
        askPairs(script, plain, Calls.OF_HAND, hands, 11);
        checks.stands(17, "Returns that.");
        askPairs(script, plain, Calls.OF_LAYER, layers, 14);
        checks.stands(18, "Returns how many WRONGS the first one did to the other one.");
        askPairs(script, plain, Calls.WRONGS, hands, hands);
        checks.stands(19, "Returns their LIKENESS.");
        askPairs(script, plain, Calls.LIKENESS, layers, layers);
        checks.stands(25, "Returns its FAME, if so many NIGHTS went on (also beyond 400).");
        askPairs(script, plain, Calls.WOULD_FAME, hands, 31);
        checks.stands(20, "Returns that.");
        for (int what = -1; what <= 12; what++) {
            ask(script, plain, Calls.MANY, what);
        }
        checks.stands(21, "Returns the mean FAME of all HANDS, not cut; 0 without any.");
        ask(script, plain, Calls.MEAN_FAME);
        checks.stands(24, "Returns of the WALLS that can be BUFFED with the COINS of now");
        ask(script, plain, Calls.NEXT_BUFF);
        askWhatPaintWouldDo(script, plain);
    }

    private void askPairs(Script script, PlainCity plain, int call, int firsts, int seconds) {
        for (int first = -1; first <= firsts; first++) {
            for (int second = -1; second <= seconds; second++) {
                ask(script, plain, call, first, second);
            }
        }
    }

    private void askWhatPaintWouldDo(Script script, PlainCity plain) {
        for (int hand = 0; hand < plain.many(2); hand++) {
            for (int wall = 0; wall < plain.many(1); wall++) {
                int width = plain.ofWall(wall, 0);
                checks.stands(22, "Returns from which CELL it would do the fewest WRONGS to paint so now");
                for (int wide = 0; wide <= 17; wide++) {
                    ask(script, plain, Calls.BEST_FROM, hand, wall, wide, (hand + wide) % 4);
                }
                checks.stands(23, "Returns how many WRONGS it would do to paint so now");
                for (int from = -1; from <= width; from++) {
                    ask(script, plain, Calls.WOULD_WRONG, hand, wall, from, 1, (hand + from + 1) % 4);
                    ask(script, plain, Calls.WOULD_WRONG, hand, wall, from, width - from, from % 3 + 1);
                    ask(script, plain, Calls.WOULD_WRONG, hand, wall, from, width - from + 1, 0);
                }
            }
        }
    }

    private void doEverythingInTheFullCity() {
        checks.stands(9, "SELLS.");
        Script all = Script.full();
        for (int layer = 0; layer <= 60; layer++) {
            all.then(Calls.SELL, layer).then(Calls.WAIVE, layer).then(Calls.REMEMBER, layer);
        }
        for (int hand = 0; hand <= 8; hand++) {
            all.then(Calls.PAY, hand).then(Calls.PAINT, hand, 0, 0, 1, 0, 0);
        }
        all.then(Calls.PASS, 1).then(Calls.WALL, 4, 1, 0, 0).then(Calls.HAND, 0, 1, 0, 0);
        all.check(checks);
        checks.stands(7, "BUFFS.");
        Script walls = Script.full();
        for (int wall = -1; wall <= 6; wall++) {
            walls.then(Calls.PERMIT, wall, wall & 3, 400).then(Calls.WATCH, wall, 0, 359);
            walls.then(Calls.BUFF, wall).then(Calls.CLEAR, wall).then(Calls.NEXT_BUFF);
        }
        walls.check(checks);
    }

    /** 62 calls tell and paint all, 448 ask, and the last two of the 512 do and ask. */
    private void fiveHundredAndTwelveCalls() {
        checks.stands(26, "An object is used for at most 512 calls after it has been made; what later calls answer is"
            + " free.");
        Wallcode city = new Wallcode();
        city.wall(16, 9, 3, 0);
        city.hand(3, 9, 9, 9);
        for (int layer = 0; layer < 60; layer++) {
            city.paint(0, 0, layer % 16, 1, 0, 0);
        }
        long digest = city.digest();
        for (int call = 64; call <= 510; call++) {
            checks.is("call " + call, digest, city.digest());
        }
        checks.is("call 511, clear(0)", 0, city.clear(0));
        checks.is("call 512, ofWall(0, 4)", 0, city.ofWall(0, 4));
    }
}
