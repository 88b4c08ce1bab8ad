import java.util.ArrayList;
import java.util.LinkedHashMap;
import java.util.List;
import java.util.Map;

/**
 * What each deed changes, and that all else stays as it was: promises 4 to 13 on a city whose LAYERS are LEGAL or
 * not, WAIVED or not, a MEMORIAL or not, a TAG or a PIECE, in all combinations; and that no question changes
 * anything: promises 14 to 26.
 */
final class DeedBounds {
    private static final int WALLS = 3;
    private static final int HANDS = 4;
    /** LAYERS 0 to 15 are on the CELLS 0 to 15 of WALL 0, LAYERS 16 to 31 on those of WALL 1, two on WALL 2. */
    private static final int LAYERS = 34;
    private static final int[] WIDTHS = {16, 16, 4};

    private final Checks checks;
    private final List<int[]> questions = questions();
    private Map<String, String> before;

    DeedBounds(Checks checks) {
        this.checks = checks;
    }

    void run() {
        before = answers(mixed());
        theCityIsMixed();
        permits();
        watches();
        paintings();
        buffings();
        clearings();
        sales();
        waivers();
        memorials();
        payments();
        nights();
        memorialsStayIfWaived();
        memorialsAreTakenOffLikeOthers();
        wallsOfMemorialsAreCleaned();
        guardedForTwentyNights();
        memorialsAreOwedFor();
        nothingIsOwedOtherwise();
        questionsChangeNothing();
    }

    // ---- the city and its questions

    private static boolean isLegal(int layer) {
        return layer % 16 < 8;
    }

    private static boolean isPiece(int layer) {
        return layer % 8 >= 4;
    }

    private static boolean isWaived(int layer) {
        return layer % 4 >= 2;
    }

    private static boolean isMemorial(int layer) {
        return layer % 2 == 1;
    }

    /** In NIGHT 2; WALL 0 has a PERMIT for CREW 0 up to NIGHT 2, WALL 1 up to 400 and a CLEANING in NIGHT 3. */
    private static Script mixed() {
        Script mixed = new Script("a mixed city")
            .then(Calls.WALL, WIDTHS[0], 3, 2, 0).then(Calls.WALL, WIDTHS[1], 5, 0, 3)
            .then(Calls.WALL, WIDTHS[2], 2, 1, 0)
            .then(Calls.HAND, 0, 9, 3, 6).then(Calls.HAND, 1, 9, 4, 5).then(Calls.HAND, 0, 9, 8, 2)
            .then(Calls.HAND, 3, 9, 9, 0).then(Calls.PASS, 2);
        for (int wall = 0; wall < 2; wall++) {
            for (int cell = 0; cell < 16; cell++) {
                mixed.then(Calls.PERMIT, wall, isLegal(cell) ? 0 : 2, 2);
                mixed.then(Calls.PAINT, 0, wall, cell, 1, isPiece(cell) ? 2 : 0, 0);
            }
        }
        mixed.then(Calls.PERMIT, 0, 0, 2).then(Calls.PERMIT, 1, 0, 400);
        for (int layer = 0; layer < 32; layer++) {
            if (isWaived(layer)) {
                mixed.then(Calls.WAIVE, layer);
            }
            if (isMemorial(layer)) {
                mixed.then(Calls.REMEMBER, layer);
            }
        }
        return mixed.then(Calls.WATCH, 2, 0, 359)
            .then(Calls.PAINT, 1, 2, 0, 4, 2, 1).then(Calls.PAINT, 2, 2, 1, 2, 0, -1)
            .then(Calls.WATCH, 0, 20, 22).then(Calls.WATCH, 1, 3, 3);
    }

    private static List<int[]> questions() {
        List<int[]> all = new ArrayList<>();
        addPairs(all, Calls.OF_WALL, WALLS, 7);
        addPairs(all, Calls.OF_HAND, HANDS, 11);
        addPairs(all, Calls.OF_LAYER, LAYERS, 14);
        addPairs(all, Calls.WRONGS, HANDS, HANDS);
        addPairs(all, Calls.LIKENESS, LAYERS, 1);
        addPairs(all, Calls.WOULD_FAME, HANDS, 8);
        for (int what = 0; what <= 11; what++) {
            all.add(new int[] {Calls.MANY, what});
        }
        all.add(new int[] {Calls.MEAN_FAME});
        all.add(new int[] {Calls.NEXT_BUFF});
        for (int wall = 0; wall < WALLS; wall++) {
            for (int cell = 0; cell < WIDTHS[wall]; cell++) {
                all.add(new int[] {Calls.SHOWS, wall, cell});
            }
            for (int hand = 0; hand < HANDS; hand++) {
                for (int kind = 0; kind <= 3; kind++) {
                    all.add(new int[] {Calls.BEST_FROM, hand, wall, 2, kind});
                    for (int cell = 0; cell < WIDTHS[wall]; cell++) {
                        all.add(new int[] {Calls.WOULD_WRONG, hand, wall, cell, 1, kind});
                    }
                }
            }
        }
        return all;
    }

    private static void addPairs(List<int[]> all, int call, int firsts, int seconds) {
        for (int first = 0; first < firsts; first++) {
            for (int second = 0; second < seconds; second++) {
                all.add(new int[] {call, first, second});
            }
        }
    }

    private static int[] argumentsOf(int[] row) {
        int[] arguments = new int[row.length - 1];
        System.arraycopy(row, 1, arguments, 0, arguments.length);
        return arguments;
    }

    private Map<String, String> answers(Script script) {
        Map<String, String> answers = new LinkedHashMap<>();
        for (int[] question : questions) {
            int[] arguments = argumentsOf(question);
            answers.put(Calls.text(question[0], arguments), Calls.answer(script.cityFor(1), question[0], arguments));
        }
        return answers;
    }

    private void theCityIsMixed() {
        checks.stands(17, "6 1 if it is LEGAL, otherwise 0, 7 1 if WAIVED, 8 1 if a MEMORIAL");
        Wallcode city = mixed().city();
        for (int layer = 0; layer < 32; layer++) {
            checks.is("LEGAL " + layer, isLegal(layer) ? 1 : 0, city.ofLayer(layer, 6));
            checks.is("WAIVED " + layer, isWaived(layer) ? 1 : 0, city.ofLayer(layer, 7));
            checks.is("MEMORIAL " + layer, isMemorial(layer) ? 1 : 0, city.ofLayer(layer, 8));
            checks.is("KIND " + layer, isPiece(layer) ? 2 : 0, city.ofLayer(layer, 4));
            checks.is("SEEN " + layer, 1, city.ofLayer(layer, 9));
        }
        checks.is("LAYERS", LAYERS, city.many(3));
        checks.is("KNOWN HANDS", 2, city.many(7));
    }

    // ---- each deed

    /** Of all that can be asked only what one of these patterns fits is another one behind the deed. */
    private void changesOnly(String patterns, int call, int... arguments) {
        Script script = mixed().then(call, arguments);
        String deed = Calls.text(call, arguments);
        for (Map.Entry<String, String> entry : answers(script).entrySet()) {
            String question = entry.getKey();
            if (!question.matches(patterns)) {
                checks.isText(question + " behind " + deed, before.get(question), entry.getValue());
            }
        }
        later(mixed().then(call, arguments)).check(checks);
    }

    /** What no question tells shows later: WATCHES, what minutes are left, last NIGHTS of PERMITS, rights. */
    private static Script later(Script script) {
        script.then(Calls.DIGEST);
        for (int minute = 0; minute < 24; minute++) {
            script.then(Calls.PAINT, 3, minute % 3, minute % 4, 1, 0, 0).then(Calls.OF_HAND, 3, 10);
        }
        script.then(Calls.DIGEST).then(Calls.CLEAR, 0).then(Calls.OF_HAND, 0, 9).then(Calls.PASS, 1);
        script.then(Calls.DIGEST).then(Calls.BUFF, 0).then(Calls.BUFF, 2).then(Calls.BUFF, 1).then(Calls.PASS, 30);
        script.then(Calls.OF_WALL, 0, 3).then(Calls.OF_WALL, 1, 3);
        script.then(Calls.PERMIT, 0, 1, 400).then(Calls.PERMIT, 1, 1, 400).then(Calls.PERMIT, 2, 1, 400);
        return script.then(Calls.DIGEST);
    }

    private void permits() {
        checks.stands(4, "Tells a PERMIT.");
        for (int wall = 0; wall < WALLS; wall++) {
            for (int crew = 0; crew <= 3; crew++) {
                changesOnly("ofWall\\(" + wall + ", [35]\\)|nextBuff.*|(wouldWrong|bestFrom)\\(\\d, " + wall + ".*",
                    Calls.PERMIT, wall, crew, 10);
            }
        }
    }

    private void watches() {
        checks.stands(5, "Tells a WATCH.");
        for (int wall = 0; wall < WALLS; wall++) {
            changesOnly("", Calls.WATCH, wall, 0, 359);
            changesOnly("", Calls.WATCH, wall, 5, 5);
        }
    }

    private void paintings() {
        checks.stands(6, "PAINTS.");
        String ofPainter = "ofHand\\(3, ([1234567]|10)\\)|wouldFame\\(3, .*|wrongs\\(3, 0\\)";
        String ofOther = "ofHand\\(0, [468]\\)|wouldFame\\(0, .*|ofLayer\\(\\d+, (12|13)\\)|meanFame.*";
        String ofAll = "many\\(([34678]|11)\\)|nextBuff.*";
        for (int cell = 0; cell < 16; cell++) {
            String ofLayer = "ofLayer\\(" + cell + ", 9\\)|shows\\(0, " + cell + "\\)|ofWall\\(0, [456]\\)";
            String ofWall = "wouldWrong\\(\\d, 0, " + cell + ",.*|bestFrom\\(\\d, 0.*";
            String patterns = ofPainter + "|" + ofOther + "|" + ofAll + "|" + ofLayer + "|" + ofWall;
            changesOnly(patterns, Calls.PAINT, 3, 0, cell, 1, 0, 2);
            changesOnly(patterns, Calls.PAINT, 3, 0, cell, 1, 3, -2);
        }
    }

    /** What can be another one, if only CELLS of this WALL are BARE that showed LAYERS of these HANDS. */
    private static String bared(int wall, String hands) {
        return "shows\\(" + wall + ".*|ofWall\\(" + wall + ", [456]\\)|ofLayer\\(\\d+, (9|12)\\)|many\\((4|11)\\)"
            + "|ofHand\\([" + hands + "], [46]\\)|wouldFame\\([" + hands + "].*|meanFame.*|nextBuff.*"
            + "|(wouldWrong|bestFrom)\\(\\d, " + wall + ".*";
    }

    private static String handsOf(int wall) {
        return wall == 2 ? "12" : "0";
    }

    private void buffings() {
        checks.stands(7, "this is taken off; that costs 1 for each such CELL");
        for (int wall = 0; wall < WALLS; wall++) {
            changesOnly(bared(wall, handsOf(wall)) + "|many\\(5\\)", Calls.BUFF, wall);
        }
    }

    private void clearings() {
        checks.stands(8, "To CLEAR a WALL (by its OWNER): all CELLS are BARE");
        for (int wall = 0; wall < WALLS; wall++) {
            changesOnly(bared(wall, handsOf(wall)) + "|many\\(9\\)|ofHand\\(0, 9\\)", Calls.CLEAR, wall);
        }
    }

    private void sales() {
        checks.stands(9, "it is cut out: the CELLS that show it are BARE; the PRICE goes to the OWNER.");
        for (int layer = 0; layer < LAYERS; layer++) {
            int wall = layer / 16;
            changesOnly(bared(wall, handsOf(wall)) + "|many\\(10\\)", Calls.SELL, layer);
        }
    }

    private void waivers() {
        checks.stands(10, "WAIVES the rights of a LAYER.");
        for (int layer = 0; layer < LAYERS; layer++) {
            changesOnly("ofLayer\\(" + layer + ", 7\\)", Calls.WAIVE, layer);
        }
    }

    private void memorials() {
        checks.stands(11, "Makes a LAYER a MEMORIAL, from now on.");
        for (int layer = 0; layer < LAYERS; layer++) {
            int wall = layer / 16;
            String ofWall = "(wouldWrong|bestFrom)\\(\\d, " + wall + ".*";
            changesOnly("ofLayer\\(" + layer + ", 8\\)|" + ofWall, Calls.REMEMBER, layer);
        }
    }

    private void payments() {
        checks.stands(12, "A HAND pays its FINES (COINS stay).");
        for (int hand = 0; hand < HANDS; hand++) {
            changesOnly("ofHand\\(" + hand + ", 2\\)|many\\(8\\)", Calls.PAY, hand);
        }
    }

    private void nights() {
        checks.stands(13, "The NIGHT goes on: it is 1 more, all HANDS have 360 minutes, COINS are 5 more;");
        String ofNight = "many\\([05]\\)|ofHand\\(\\d, 1\\)|ofWall\\(0, [35]\\)|nextBuff.*|wouldFame.*"
            + "|(wouldWrong|bestFrom)\\(\\d, [0-2].*";
        changesOnly(ofNight + "|" + bared(1, "0"), Calls.PASS, 1);
        changesOnly(ofNight + "|" + bared(1, "0"), Calls.PASS, 30);
    }

    // ---- what MEMORIALS and rights have to do with one another

    private void memorialsStayIfWaived() {
        checks.stands(6, "if that is another HAND, and it is a MEMORIAL");
        for (int layer = 0; layer < 16; layer++) {
            Wallcode city = mixed().city();
            city.waive(layer);
            checks.is("wouldWrong of the own CREW, LAYER " + layer + " WAIVED", isMemorial(layer) ? 1 : 0,
                city.wouldWrong(2, 0, layer, 1, 3));
            checks.is("paint of the own CREW, LAYER " + layer + " WAIVED", isMemorial(layer) ? 1 : 0,
                city.paint(2, 0, layer, 1, 3, 0));
            checks.is("wrongs(2, 0), LAYER " + layer + " WAIVED", isMemorial(layer) ? 1 : 0, city.wrongs(2, 0));
        }
    }

    private void memorialsAreTakenOffLikeOthers() {
        checks.stands(13, "then each WALL with a CLEANING each c NIGHTS, if the NIGHT can be divided by c, is BARE.");
        Wallcode cleaned = mixed().city();
        checks.is("pass(1) to a CLEANING", 16, cleaned.pass(1));
        checks.stands(7, "of each CELL that shows a LAYER that is not LEGAL, or whose CREW has not the PERMIT there"
            + " by now, this is taken off");
        Wallcode buffed = mixed().city();
        checks.is("buff(0)", 8, buffed.buff(0));
        checks.is("buff(1)", 8, buffed.buff(1));
        for (int layer = 0; layer < 32; layer++) {
            int wall = layer / 16;
            checks.is("CELL " + layer % 16 + " of WALL " + wall + ", cleaned", wall == 0 ? layer : -1,
                cleaned.shows(wall, layer % 16));
            checks.is("CELL " + layer % 16 + " of WALL " + wall + ", BUFFED", isLegal(layer) ? layer : -1,
                buffed.shows(wall, layer % 16));
        }
        checks.stands(9, "To SELL a LAYER that is SEEN: it is cut out: the CELLS that show it are BARE");
        for (int layer = 0; layer < LAYERS; layer++) {
            Wallcode sold = mixed().city();
            checks.isTrue("sell(" + layer + ")", sold.sell(layer) > 0);
            checks.is("SEEN " + layer + ", SOLD", 0, sold.ofLayer(layer, 9));
            checks.is("MEMORIAL " + layer + ", SOLD", layer < 32 && isMemorial(layer) ? 1 : 0, sold.ofLayer(layer, 8));
        }
    }

    private void wallsOfMemorialsAreCleaned() {
        checks.stands(13, "Returns how many CELLS CLEANINGS made BARE (that were not).");
        Wallcode city = mixed().city();
        for (int layer = 16; layer < 32; layer++) {
            city.remember(layer);
        }
        checks.is("wouldFame(0, 1)", 120, city.wouldFame(0, 1));
        checks.is("pass(1), all CELLS show MEMORIALS", 16, city.pass(1));
        checks.is("CELLS that show a LAYER", 0, city.ofWall(1, 4));
        checks.is("FAME on WALL 0 alone", 120, city.ofHand(0, 4));
    }

    /** Painted in NIGHT 2: 19 NIGHTS ago in 21, 20 NIGHTS ago in 22. */
    private void guardedForTwentyNights() {
        checks.stands(6, "the LAYER was painted less than 20 NIGHTS ago");
        Wallcode city = mixed().city();
        Cities.passTo(city, 21);
        for (int layer = 0; layer < 16; layer++) {
            checks.is("LAYER " + layer + " 19 NIGHTS ago", 1, city.wouldWrong(1, 0, layer, 1, 0));
        }
        city.pass(1);
        for (int layer = 0; layer < 16; layer++) {
            int due = isMemorial(layer) ? 1 : 0;
            checks.is("LAYER " + layer + " 20 NIGHTS ago", due, city.wouldWrong(1, 0, layer, 1, 0));
            checks.is("paint over it", due, city.paint(1, 0, layer, 1, 0, 0));
        }
    }

    /** LEGAL, a PIECE, not WAIVED: LAYERS 4 and 5, the latter one a MEMORIAL; each for 5 times 4 times 1. */
    private void memorialsAreOwedFor() {
        checks.stands(8, "for each LAYER that was shown, is LEGAL, a PIECE or a BURNER, and not WAIVED, its HAND is"
            + " owed 5 times WEIGHT times the CELLS that showed it.");
        Wallcode city = mixed().city();
        checks.is("clear(0)", 40, city.clear(0));
        checks.is("owed", 40, city.ofHand(0, 9));
        Wallcode remembered = mixed().city();
        remembered.remember(4);
        checks.is("clear(0), both MEMORIALS", 40, remembered.clear(0));
        Wallcode waived = mixed().city();
        waived.waive(5);
        checks.is("clear(0), the MEMORIAL WAIVED", 20, waived.clear(0));
        checks.is("waive(4) behind it", 1, city.waive(4) ? 1 : 0);
        checks.is("owed, WAIVED behind it", 40, city.ofHand(0, 9));
        checks.is("clear(0) once more", 0, city.clear(0));
        checks.is("owed then", 40, city.ofHand(0, 9));
    }

    private void nothingIsOwedOtherwise() {
        checks.stands(16, "9 what it is owed");
        Wallcode city = mixed().city();
        city.sell(4);
        city.sell(5);
        city.paint(2, 0, 0, 8, 3, 0);
        city.pass(1);
        city.buff(0);
        checks.is("owed behind sell, paint, pass and buff", 0, city.many(9));
        checks.is("owed to HAND 0", 0, city.ofHand(0, 9));
        checks.is("SEEN on WALL 1, cleaned", 0, city.ofWall(1, 6));
    }

    // ---- questions

    private void questionsChangeNothing() {
        checks.stands(14, "Returns that.");
        checks.stands(22, "to paint so now (minutes and how many LAYERS there are aside)");
        checks.stands(25, "Returns its FAME, if so many NIGHTS went on (also beyond 400).");
        checks.stands(26, "Computes a checksum.");
        Script script = mixed();
        long due = script.city().digest();
        for (int[] question : questions) {
            int[] arguments = argumentsOf(question);
            Wallcode city = script.cityFor(2);
            Calls.answer(city, question[0], arguments);
            checks.is("digest() behind " + Calls.text(question[0], arguments), due, city.digest());
        }
        Script asked = mixed();
        for (int[] question : new int[][] {{Calls.BEST_FROM, 3, 0, 2, 3}, {Calls.WOULD_WRONG, 3, 0, 0, 16, 0},
            {Calls.WOULD_FAME, 0, 30}, {Calls.NEXT_BUFF}, {Calls.DIGEST}, {Calls.OF_LAYER, 5, 12}}) {
            asked.then(question[0], argumentsOf(question));
        }
        later(asked).check(checks);
    }
}
