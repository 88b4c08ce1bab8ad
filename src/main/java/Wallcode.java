import java.util.ArrayList;

/** A city that is written on. */
public final class Wallcode {
    private static final int NONE = -1;

    private static final int MOST_WALLS = 6;
    private static final int MOST_HANDS = 8;
    private static final int MOST_LAYERS = 60;
    private static final int LAST_CREW = 3;
    private static final int LAST_KIND = 3;
    private static final int LAST_NIGHT = 400;
    private static final int MOST_WIDTH = 16;
    private static final int MINUTES_A_NIGHT = 360;
    private static final int COINS_AT_FIRST = 30;
    private static final int COINS_A_NIGHT = 5;
    private static final int GUARDED_NIGHTS = 20;
    private static final int PIECE = 2;
    private static final int MOST_LIKENESS = 20;
    private static final long DIGEST_START = 58232L;

    private static final int[] WEIGHTS = {1, 2, 4, 7};
    private static final int[] CELL_MINUTES = {6, 20, 60, 90};

    private final ArrayList<Wall> walls;
    private final ArrayList<Hand> hands;
    private final ArrayList<Layer> layers;
    private int tonight;
    private int coins;
    private int soldFor;

    public Wallcode() {
        walls = new ArrayList<Wall>();
        hands = new ArrayList<Hand>();
        layers = new ArrayList<Layer>();
        tonight = 0;
        coins = COINS_AT_FIRST;
        soldFor = 0;
    }

    // ---- what is told

    public int wall(int width, int sight, int owner, int cleaning)
            throws IllegalArgumentException, IllegalStateException {
        boolean cleaningIsGood = cleaning == 0 || isWithin(cleaning, 2, 20);
        if (!isWithin(width, 4, MOST_WIDTH) || !isWithin(sight, 1, 9) || !isWithin(owner, 0, 3)
                || !cleaningIsGood) {
            throw new IllegalArgumentException("a wall is not so");
        }
        int number = walls.size();
        if (number >= MOST_WALLS) {
            throw new IllegalStateException("there are 6 walls");
        }
        walls.add(new Wall(number, width, sight, owner, cleaning));
        return number;
    }

    public int hand(int crew, int speed, int slant, int round)
            throws IllegalArgumentException, IllegalStateException {
        if (!isWithin(crew, 0, LAST_CREW) || !isWithin(speed, 1, 9) || !isWithin(slant, 0, 9)
                || !isWithin(round, 0, 9)) {
            throw new IllegalArgumentException("a hand is not so");
        }
        int number = hands.size();
        if (number >= MOST_HANDS) {
            throw new IllegalStateException("there are 8 hands");
        }
        hands.add(new Hand(number, crew, speed, slant, round));
        return number;
    }

    public int permit(int wall, int crew, int night)
            throws IndexOutOfBoundsException, IllegalArgumentException {
        Wall told = wallAt(wall);
        if (!isWithin(crew, 0, LAST_CREW) || !isWithin(night, tonight, LAST_NIGHT)) {
            throw new IllegalArgumentException("a permit is not so");
        }
        int former = told.permittedCrew(tonight);
        told.permitCrew = crew;
        told.permitUpTo = night;
        return former;
    }

    public int watch(int wall, int from, int to)
            throws IndexOutOfBoundsException, IllegalArgumentException {
        Wall told = wallAt(wall);
        if (!isWithin(from, 0, MINUTES_A_NIGHT - 1) || !isWithin(to, from, MINUTES_A_NIGHT - 1)) {
            throw new IllegalArgumentException("a watch is not so");
        }
        told.watchFrom = from;
        told.watchTo = to;
        return to - from + 1;
    }

    // ---- what is done

    public int paint(int hand, int wall, int from, int wide, int kind, int wobble)
            throws IndexOutOfBoundsException, IllegalArgumentException, IllegalStateException {
        Hand painter = handAt(hand);
        Wall ground = wallAt(wall);
        if (!ground.hasCells(from, wide) || !isKind(kind) || !isWithin(wobble, -2, 2)) {
            throw new IllegalArgumentException("nothing is painted so");
        }
        int minutes = wide * painter.minutesOfCell(kind);
        if (minutes > painter.minutesLeft() || layers.size() >= MOST_LAYERS) {
            throw new IllegalStateException("too few minutes are left, or there are 60 layers");
        }
        int wrongsDone = doWrongs(painter, ground, from, wide, kind);
        Layer layer = new Layer(layers.size(), painter, ground, from, wide, kind, wobble);
        layer.night = tonight;
        layer.legal = isPermitted(painter, ground);
        if (!layer.legal && ground.isWatchedWithin(painter.minutesUsed, minutes)) {
            painter.beCaught(kind);
        }
        painter.minutesUsed += minutes;
        ground.cover(layer);
        layers.add(layer);
        return wrongsDone;
    }

    public int buff(int wall) throws IndexOutOfBoundsException, IllegalStateException {
        Wall buffed = wallAt(wall);
        int cost = cellsToBuff(buffed);
        if (cost > coins) {
            throw new IllegalStateException("there are not coins enough");
        }
        for (int cell = 0; cell < buffed.width; cell++) {
            if (isToBuff(buffed, cell)) {
                buffed.shown[cell] = null;
            }
        }
        coins -= cost;
        return cost;
    }

    public int clear(int wall) throws IndexOutOfBoundsException {
        Wall cleared = wallAt(wall);
        int owed = 0;
        for (int cell = 0; cell < cleared.width; cell++) {
            Layer layer = cleared.shown[cell];
            if (layer != null && layer.hasRights()) {
                int due = 5 * layer.weight();
                layer.hand.owed += due;
                owed += due;
            }
        }
        cleared.bareAll();
        return owed;
    }

    public int sell(int layer) throws IndexOutOfBoundsException, IllegalStateException {
        Layer sold = layerAt(layer);
        if (!sold.isSeen()) {
            throw new IllegalStateException("the layer is not seen");
        }
        int price = priceOf(sold);
        sold.wall.cutOut(sold);
        soldFor += price;
        return price;
    }

    public boolean waive(int layer) throws IndexOutOfBoundsException {
        Layer waived = layerAt(layer);
        boolean isNew = !waived.waived;
        waived.waived = true;
        return isNew;
    }

    public boolean remember(int layer) throws IndexOutOfBoundsException {
        Layer remembered = layerAt(layer);
        boolean isNew = !remembered.memorial;
        remembered.memorial = true;
        return isNew;
    }

    public int pay(int hand) throws IndexOutOfBoundsException {
        Hand payer = handAt(hand);
        int paid = payer.fines;
        payer.fines = 0;
        return paid;
    }

    public int pass(int nights) throws IllegalArgumentException, IllegalStateException {
        if (!isWithin(nights, 1, 30)) {
            throw new IllegalArgumentException("nights are not 1 to 30");
        }
        if (tonight + nights > LAST_NIGHT) {
            throw new IllegalStateException("the night would be above 400");
        }
        int bared = 0;
        for (int passed = 0; passed < nights; passed++) {
            bared += goOneNightOn();
        }
        return bared;
    }

    // ---- what is asked

    public int ofWall(int wall, int what) throws IndexOutOfBoundsException, IllegalArgumentException {
        Wall asked = wallAt(wall);
        switch (what) {
            case 0:
                return asked.width;
            case 1:
                return asked.sight;
            case 2:
                return asked.owner;
            case 3:
                return asked.permittedCrew(tonight);
            case 4:
                return asked.paintedCells();
            case 5:
                return eyesoreOf(asked);
            case 6:
                return layersSeenOn(asked);
            default:
                throw new IllegalArgumentException("what is not 0 to 6");
        }
    }

    public int shows(int wall, int cell) throws IndexOutOfBoundsException {
        Wall asked = wallAt(wall);
        if (!isWithin(cell, 0, asked.width - 1)) {
            throw new IndexOutOfBoundsException("there is no such cell");
        }
        Layer layer = asked.shown[cell];
        return layer == null ? NONE : layer.number;
    }

    public int ofHand(int hand, int what) throws IndexOutOfBoundsException, IllegalArgumentException {
        Hand asked = handAt(hand);
        switch (what) {
            case 0:
                return asked.crew;
            case 1:
                return asked.minutesLeft();
            case 2:
                return asked.fines;
            case 3:
                return asked.known ? 1 : 0;
            case 4:
                return fameOf(asked);
            case 5:
                return layersOf(asked);
            case 6:
                return layersSeenOf(asked);
            case 7:
                return asked.wrongsDone();
            case 8:
                return wrongsSufferedBy(asked);
            case 9:
                return asked.owed;
            case 10:
                return asked.timesCaught;
            default:
                throw new IllegalArgumentException("what is not 0 to 10");
        }
    }

    public int ofLayer(int layer, int what) throws IndexOutOfBoundsException, IllegalArgumentException {
        Layer asked = layerAt(layer);
        switch (what) {
            case 0:
                return asked.hand.number;
            case 1:
                return asked.wall.number;
            case 2:
                return asked.from;
            case 3:
                return asked.wide;
            case 4:
                return asked.kind;
            case 5:
                return asked.night;
            case 6:
                return asked.legal ? 1 : 0;
            case 7:
                return asked.waived ? 1 : 0;
            case 8:
                return asked.memorial ? 1 : 0;
            case 9:
                return asked.cellsSeen();
            case 10:
                return asked.slantShown();
            case 11:
                return asked.roundShown();
            case 12:
                return priceOf(asked);
            case 13:
                return suspectOf(asked);
            default:
                throw new IllegalArgumentException("what is not 0 to 13");
        }
    }

    public int wrongs(int one, int other) throws IndexOutOfBoundsException {
        Hand doer = handAt(one);
        Hand sufferer = handAt(other);
        return doer.wrongsTo[sufferer.number];
    }

    public int likeness(int one, int other) throws IndexOutOfBoundsException {
        Layer first = layerAt(one);
        Layer second = layerAt(other);
        return MOST_LIKENESS - Math.abs(first.slantShown() - second.slantShown())
                - Math.abs(first.roundShown() - second.roundShown());
    }

    public int many(int what) throws IllegalArgumentException {
        switch (what) {
            case 0:
                return tonight;
            case 1:
                return walls.size();
            case 2:
                return hands.size();
            case 3:
                return layers.size();
            case 4:
                return layersSeen();
            case 5:
                return coins;
            case 6:
                return allWrongs();
            case 7:
                return knownHands();
            case 8:
                return allFines();
            case 9:
                return allOwed();
            case 10:
                return soldFor;
            case 11:
                return layersWithWrongSuspect();
            default:
                throw new IllegalArgumentException("what is not 0 to 11");
        }
    }

    public double meanFame() {
        if (hands.isEmpty()) {
            return 0.0;
        }
        int sum = 0;
        for (int number = 0; number < hands.size(); number++) {
            sum += fameOf(hands.get(number));
        }
        return (double) sum / (double) hands.size();
    }

    // ---- what would be (nothing is changed)

    public int bestFrom(int hand, int wall, int wide, int kind)
            throws IndexOutOfBoundsException, IllegalArgumentException {
        Hand painter = handAt(hand);
        Wall ground = wallAt(wall);
        if (!isWithin(wide, 1, MOST_WIDTH) || !isKind(kind)) {
            throw new IllegalArgumentException("nothing is painted so");
        }
        int best = NONE;
        int fewestWrongs = 0;
        int greatestGain = 0;
        for (int from = 0; from + wide <= ground.width; from++) {
            int wrongsDone = countWrongs(painter, ground, from, wide, kind);
            int gain = fameGain(painter, ground, from, wide, kind);
            boolean isBetter = wrongsDone < fewestWrongs
                    || wrongsDone == fewestWrongs && gain > greatestGain;
            if (best == NONE || isBetter) {
                best = from;
                fewestWrongs = wrongsDone;
                greatestGain = gain;
            }
        }
        return best;
    }

    public int wouldWrong(int hand, int wall, int from, int wide, int kind)
            throws IndexOutOfBoundsException, IllegalArgumentException {
        Hand painter = handAt(hand);
        Wall ground = wallAt(wall);
        if (!ground.hasCells(from, wide) || !isKind(kind)) {
            throw new IllegalArgumentException("nothing is painted so");
        }
        return countWrongs(painter, ground, from, wide, kind);
    }

    public int nextBuff() {
        int next = NONE;
        int greatestEyesore = 0;
        for (int number = 0; number < walls.size(); number++) {
            Wall wall = walls.get(number);
            int eyesore = eyesoreOf(wall);
            if (cellsToBuff(wall) <= coins && eyesore > greatestEyesore) {
                next = number;
                greatestEyesore = eyesore;
            }
        }
        return next;
    }

    public int wouldFame(int hand, int nights)
            throws IndexOutOfBoundsException, IllegalArgumentException {
        Hand asked = handAt(hand);
        if (!isWithin(nights, 0, 30)) {
            throw new IllegalArgumentException("nights are not 0 to 30");
        }
        int fame = 0;
        for (int number = 0; number < walls.size(); number++) {
            Wall wall = walls.get(number);
            if (!willBeCleaned(wall, nights)) {
                fame += wall.fameOf(asked);
            }
        }
        return fame;
    }

    public long digest() {
        long digest = DIGEST_START;
        for (int what = 0; what <= 11; what++) {
            digest = mixed(digest, many(what));
        }
        for (int number = 0; number < walls.size(); number++) {
            digest = mixedWithWall(digest, number);
        }
        for (int number = 0; number < hands.size(); number++) {
            digest = mixedWithHand(digest, number);
        }
        for (int number = 0; number < layers.size(); number++) {
            for (int what = 0; what <= 13; what++) {
                digest = mixed(digest, ofLayer(number, what));
            }
        }
        digest = mixed(digest, nextBuff());
        if (!hands.isEmpty() && !walls.isEmpty()) {
            digest = mixed(digest, bestFrom(0, 0, 2, 1));
        }
        return digest;
    }

    private long mixedWithWall(long digest, int wall) {
        long mix = digest;
        for (int what = 0; what <= 6; what++) {
            mix = mixed(mix, ofWall(wall, what));
        }
        int width = wallAt(wall).width;
        for (int cell = 0; cell < width; cell++) {
            mix = mixed(mix, shows(wall, cell));
        }
        return mix;
    }

    private long mixedWithHand(long digest, int hand) {
        long mix = digest;
        for (int what = 0; what <= 10; what++) {
            mix = mixed(mix, ofHand(hand, what));
        }
        for (int other = 0; other < hands.size(); other++) {
            mix = mixed(mix, wrongs(hand, other));
        }
        return mixed(mix, wouldFame(hand, 7));
    }

    private static long mixed(long digest, int value) {
        return digest * 31L + value;
    }

    // ---- what the calls share

    private static boolean isWithin(int value, int least, int most) {
        return value >= least && value <= most;
    }

    private static boolean isKind(int kind) {
        return isWithin(kind, 0, LAST_KIND);
    }

    private Wall wallAt(int number) {
        if (!isWithin(number, 0, walls.size() - 1)) {
            throw new IndexOutOfBoundsException("there is no such wall");
        }
        return walls.get(number);
    }

    private Hand handAt(int number) {
        if (!isWithin(number, 0, hands.size() - 1)) {
            throw new IndexOutOfBoundsException("there is no such hand");
        }
        return hands.get(number);
    }

    private Layer layerAt(int number) {
        if (!isWithin(number, 0, layers.size() - 1)) {
            throw new IndexOutOfBoundsException("there is no such layer");
        }
        return layers.get(number);
    }

    private boolean isPermitted(Hand hand, Wall wall) {
        return wall.permittedCrew(tonight) == hand.crew;
    }

    // ---- the code

    private int countWrongs(Hand painter, Wall wall, int from, int wide, int kind) {
        int count = 0;
        for (int cell = from; cell < from + wide; cell++) {
            if (wrongedAt(painter, wall, from, cell, kind) != null) {
                count++;
            }
        }
        return count;
    }

    private int doWrongs(Hand painter, Wall wall, int from, int wide, int kind) {
        int done = 0;
        for (int cell = from; cell < from + wide; cell++) {
            Hand wronged = wrongedAt(painter, wall, from, cell, kind);
            if (wronged != null) {
                painter.wrongsTo[wronged.number]++;
                done++;
            }
        }
        return done;
    }

    /**
     * The hand that is wronged by what covers this cell, or null. A layer counts only at the first
     * cell, from the first covered one on, that shows it: it is one wrong for each layer.
     */
    private Hand wrongedAt(Hand painter, Wall wall, int from, int cell, int kind) {
        Layer below = wall.shown[cell];
        if (below == null || wall.showsWithin(below, from, cell)) {
            return null;
        }
        return isWronged(painter, wall, below, kind) ? below.hand : null;
    }

    private boolean isWronged(Hand painter, Wall wall, Layer below, int kind) {
        if (below.hand == painter) {
            return false;
        }
        if (below.memorial) {
            return true;
        }
        return below.hand.crew != painter.crew && kind <= below.kind
                && tonight - below.night < GUARDED_NIGHTS && !isPermitted(painter, wall);
    }

    // ---- fame, prices and suspects

    private int fameOf(Hand hand) {
        int fame = 0;
        for (int number = 0; number < walls.size(); number++) {
            fame += walls.get(number).fameOf(hand);
        }
        return fame;
    }

    private static int fameGain(Hand painter, Wall wall, int from, int wide, int kind) {
        int gain = 0;
        for (int cell = from; cell < from + wide; cell++) {
            gain += wall.sight * WEIGHTS[kind] - wall.fameAt(cell, painter);
        }
        return gain;
    }

    private int priceOf(Layer layer) {
        return layer.weight() * layer.cellsSeen() * (10 + fameOf(layer.hand) / 10);
    }

    private int suspectOf(Layer layer) {
        int suspect = NONE;
        int smallestSum = 0;
        for (int number = 0; number < hands.size(); number++) {
            Hand hand = hands.get(number);
            int sum = Math.abs(hand.slant - layer.slantShown())
                    + Math.abs(hand.round - layer.roundShown());
            if (hand.known && (suspect == NONE || sum < smallestSum)) {
                suspect = number;
                smallestSum = sum;
            }
        }
        return suspect;
    }

    // ---- buffing and cleaning

    private boolean isToBuff(Wall wall, int cell) {
        Layer layer = wall.shown[cell];
        return layer != null && (!layer.legal || !isPermitted(layer.hand, wall));
    }

    private int cellsToBuff(Wall wall) {
        int count = 0;
        for (int cell = 0; cell < wall.width; cell++) {
            if (isToBuff(wall, cell)) {
                count++;
            }
        }
        return count;
    }

    private int eyesoreOf(Wall wall) {
        return wall.sight * cellsToBuff(wall);
    }

    private int goOneNightOn() {
        tonight++;
        coins += COINS_A_NIGHT;
        for (int number = 0; number < hands.size(); number++) {
            hands.get(number).minutesUsed = 0;
        }
        int bared = 0;
        for (int number = 0; number < walls.size(); number++) {
            Wall wall = walls.get(number);
            if (wall.isCleanedIn(tonight)) {
                bared += wall.paintedCells();
                wall.bareAll();
            }
        }
        return bared;
    }

    private boolean willBeCleaned(Wall wall, int nights) {
        for (int ahead = 1; ahead <= nights; ahead++) {
            if (wall.isCleanedIn(tonight + ahead)) {
                return true;
            }
        }
        return false;
    }

    // ---- counts and sums

    private int layersSeenOn(Wall wall) {
        int count = 0;
        for (int number = 0; number < layers.size(); number++) {
            Layer layer = layers.get(number);
            if (layer.wall == wall && layer.isSeen()) {
                count++;
            }
        }
        return count;
    }

    private int layersOf(Hand hand) {
        int count = 0;
        for (int number = 0; number < layers.size(); number++) {
            if (layers.get(number).hand == hand) {
                count++;
            }
        }
        return count;
    }

    private int layersSeenOf(Hand hand) {
        int count = 0;
        for (int number = 0; number < layers.size(); number++) {
            Layer layer = layers.get(number);
            if (layer.hand == hand && layer.isSeen()) {
                count++;
            }
        }
        return count;
    }

    private int layersSeen() {
        int count = 0;
        for (int number = 0; number < layers.size(); number++) {
            if (layers.get(number).isSeen()) {
                count++;
            }
        }
        return count;
    }

    private int layersWithWrongSuspect() {
        int count = 0;
        for (int number = 0; number < layers.size(); number++) {
            Layer layer = layers.get(number);
            int suspect = suspectOf(layer);
            if (layer.isSeen() && suspect != NONE && suspect != layer.hand.number) {
                count++;
            }
        }
        return count;
    }

    private int wrongsSufferedBy(Hand sufferer) {
        int sum = 0;
        for (int number = 0; number < hands.size(); number++) {
            sum += hands.get(number).wrongsTo[sufferer.number];
        }
        return sum;
    }

    private int allWrongs() {
        int sum = 0;
        for (int number = 0; number < hands.size(); number++) {
            sum += hands.get(number).wrongsDone();
        }
        return sum;
    }

    private int knownHands() {
        int count = 0;
        for (int number = 0; number < hands.size(); number++) {
            if (hands.get(number).known) {
                count++;
            }
        }
        return count;
    }

    private int allFines() {
        int sum = 0;
        for (int number = 0; number < hands.size(); number++) {
            sum += hands.get(number).fines;
        }
        return sum;
    }

    private int allOwed() {
        int sum = 0;
        for (int number = 0; number < hands.size(); number++) {
            sum += hands.get(number).owed;
        }
        return sum;
    }

    private static final class Wall {
        final int number;
        final int width;
        final int sight;
        final int owner;
        final int cleaning;
        /** Cell by cell the layer that it shows, null where it is bare. */
        final Layer[] shown;
        int permitCrew;
        int permitUpTo;
        int watchFrom;
        int watchTo;

        Wall(int number, int width, int sight, int owner, int cleaning) {
            this.number = number;
            this.width = width;
            this.sight = sight;
            this.owner = owner;
            this.cleaning = cleaning;
            shown = new Layer[width];
            permitCrew = NONE;
            permitUpTo = NONE;
            // A watch that ends ahead of the first minute meets none of them.
            watchFrom = 0;
            watchTo = -1;
        }

        boolean hasCells(int from, int wide) {
            // Written as a difference, since from and wide together could wrap around.
            return from >= 0 && wide >= 1 && wide <= width - from;
        }

        int permittedCrew(int night) {
            return night <= permitUpTo ? permitCrew : NONE;
        }

        boolean isWatchedWithin(int firstMinute, int minutes) {
            return firstMinute <= watchTo && firstMinute + minutes > watchFrom;
        }

        boolean isCleanedIn(int night) {
            return cleaning > 0 && night % cleaning == 0;
        }

        /** Whether one of the cells from the first one on, up to ahead of the second one, shows it. */
        boolean showsWithin(Layer layer, int from, int end) {
            for (int cell = from; cell < end; cell++) {
                if (shown[cell] == layer) {
                    return true;
                }
            }
            return false;
        }

        int cellsShowing(Layer layer) {
            int count = 0;
            for (int cell = 0; cell < width; cell++) {
                if (shown[cell] == layer) {
                    count++;
                }
            }
            return count;
        }

        int paintedCells() {
            int count = 0;
            for (int cell = 0; cell < width; cell++) {
                if (shown[cell] != null) {
                    count++;
                }
            }
            return count;
        }

        int fameOf(Hand hand) {
            int fame = 0;
            for (int cell = 0; cell < width; cell++) {
                fame += fameAt(cell, hand);
            }
            return fame;
        }

        int fameAt(int cell, Hand hand) {
            Layer layer = shown[cell];
            return layer != null && layer.hand == hand ? sight * layer.weight() : 0;
        }

        void cover(Layer layer) {
            for (int cell = layer.from; cell < layer.from + layer.wide; cell++) {
                shown[cell] = layer;
            }
        }

        void cutOut(Layer layer) {
            for (int cell = 0; cell < width; cell++) {
                if (shown[cell] == layer) {
                    shown[cell] = null;
                }
            }
        }

        void bareAll() {
            for (int cell = 0; cell < width; cell++) {
                shown[cell] = null;
            }
        }
    }

    private static final class Hand {
        final int number;
        final int crew;
        final int speed;
        final int slant;
        final int round;
        /** Hand by hand how many wrongs this one did to it. */
        final int[] wrongsTo;
        int minutesUsed;
        int fines;
        boolean known;
        int timesCaught;
        int owed;

        Hand(int number, int crew, int speed, int slant, int round) {
            this.number = number;
            this.crew = crew;
            this.speed = speed;
            this.slant = slant;
            this.round = round;
            wrongsTo = new int[MOST_HANDS];
            minutesUsed = 0;
            fines = 0;
            known = false;
            timesCaught = 0;
            owed = 0;
        }

        int minutesOfCell(int kind) {
            return (CELL_MINUTES[kind] + speed - 1) / speed;
        }

        int minutesLeft() {
            return MINUTES_A_NIGHT - minutesUsed;
        }

        void beCaught(int kind) {
            fines += 20 + 10 * kind;
            known = true;
            timesCaught++;
        }

        int wrongsDone() {
            int sum = 0;
            for (int other = 0; other < MOST_HANDS; other++) {
                sum += wrongsTo[other];
            }
            return sum;
        }
    }

    private static final class Layer {
        final int number;
        final Hand hand;
        final Wall wall;
        final int from;
        final int wide;
        final int kind;
        final int wobble;
        int night;
        boolean legal;
        boolean waived;
        boolean memorial;

        Layer(int number, Hand hand, Wall wall, int from, int wide, int kind, int wobble) {
            this.number = number;
            this.hand = hand;
            this.wall = wall;
            this.from = from;
            this.wide = wide;
            this.kind = kind;
            this.wobble = wobble;
            night = 0;
            legal = false;
            waived = false;
            memorial = false;
        }

        int weight() {
            return WEIGHTS[kind];
        }

        int cellsSeen() {
            return wall.cellsShowing(this);
        }

        boolean isSeen() {
            return cellsSeen() > 0;
        }

        boolean hasRights() {
            return legal && kind >= PIECE && !waived;
        }

        int slantShown() {
            return hand.slant + wobble;
        }

        int roundShown() {
            return hand.round - wobble;
        }
    }
}
