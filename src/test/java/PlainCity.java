import java.math.BigInteger;
import java.util.ArrayList;
import java.util.List;
import java.util.Set;
import java.util.TreeSet;

/**
 * A second city, told from the document in another form: each wall remembers what was painted and
 * taken off, in order, and every answer is found by going through that from the beginning.
 */
final class PlainCity {
    static final String INDEX = "IndexOutOfBoundsException";
    static final String ARGUMENT = "IllegalArgumentException";
    static final String STATE = "IllegalStateException";

    /** What a call is refused with. */
    static final class Refused extends RuntimeException {
        private static final long serialVersionUID = 1L;

        Refused(String name) {
            super(name);
        }
    }

    private static final int[] WEIGHT = {1, 2, 4, 7};
    private static final int[] MINUTES = {6, 20, 60, 90};

    /** Wall, first cell, cell behind the last one, layer (-1: taken off). */
    private final List<int[]> history = new ArrayList<>();
    /** Width, sight, owner, cleaning. */
    private final List<int[]> walls = new ArrayList<>();
    /** Wall, crew, up to which night. */
    private final List<int[]> permits = new ArrayList<>();
    /** Wall, from, to. */
    private final List<int[]> watches = new ArrayList<>();
    /** Crew, speed, slant, round. */
    private final List<int[]> hands = new ArrayList<>();
    /** Hand, wall, from, wide, kind, wobble, night, legal. */
    private final List<int[]> layers = new ArrayList<>();
    /** Who, whom. */
    private final List<int[]> wrongs = new ArrayList<>();
    /** Hand, fine. */
    private final List<int[]> caught = new ArrayList<>();
    /** Hand, paid. */
    private final List<int[]> payments = new ArrayList<>();
    /** Hand, owed. */
    private final List<int[]> owed = new ArrayList<>();
    /** Hand, minutes, night. */
    private final List<int[]> work = new ArrayList<>();
    private final Set<Integer> waived = new TreeSet<>();
    private final Set<Integer> memorials = new TreeSet<>();
    private int night;
    private int spent;
    private int sold;

    private static void refuseUnless(boolean good, String name) {
        if (!good) {
            throw new Refused(name);
        }
    }

    private static boolean in(long value, long least, long most) {
        return least <= value && value <= most;
    }

    private void needWall(int wall) {
        refuseUnless(in(wall, 0, walls.size() - 1), INDEX);
    }

    private void needHand(int hand) {
        refuseUnless(in(hand, 0, hands.size() - 1), INDEX);
    }

    private void needLayer(int layer) {
        refuseUnless(in(layer, 0, layers.size() - 1), INDEX);
    }

    int wall(int width, int sight, int owner, int cleaning) {
        refuseUnless(in(width, 4, 16) && in(sight, 1, 9) && in(owner, 0, 3)
            && (cleaning == 0 || in(cleaning, 2, 20)), ARGUMENT);
        refuseUnless(walls.size() < 6, STATE);
        walls.add(new int[] {width, sight, owner, cleaning});
        return walls.size() - 1;
    }

    int hand(int crew, int speed, int slant, int round) {
        refuseUnless(in(crew, 0, 3) && in(speed, 1, 9) && in(slant, 0, 9) && in(round, 0, 9), ARGUMENT);
        refuseUnless(hands.size() < 8, STATE);
        hands.add(new int[] {crew, speed, slant, round});
        return hands.size() - 1;
    }

    int permit(int wall, int crew, int upTo) {
        needWall(wall);
        refuseUnless(in(crew, 0, 3) && in(upTo, night, 400), ARGUMENT);
        int former = permitted(wall);
        permits.add(new int[] {wall, crew, upTo});
        return former;
    }

    private int permitted(int wall) {
        int crew = -1;
        for (int[] permit : permits) {
            if (permit[0] == wall) {
                crew = permit[2] >= night ? permit[1] : -1;
            }
        }
        return crew;
    }

    int watch(int wall, int from, int to) {
        needWall(wall);
        refuseUnless(in(from, 0, 359) && in(to, from, 359), ARGUMENT);
        watches.add(new int[] {wall, from, to});
        return to - from + 1;
    }

    private boolean watched(int wall, int minute) {
        boolean is = false;
        for (int[] watch : watches) {
            if (watch[0] == wall) {
                is = in(minute, watch[1], watch[2]);
            }
        }
        return is;
    }

    int paint(int hand, int wall, int from, int wide, int kind, int wobble) {
        needHand(hand);
        needWall(wall);
        refuseUnless(from >= 0 && wide >= 1 && (long) from + wide <= walls.get(wall)[0]
            && in(kind, 0, 3) && in(wobble, -2, 2), ARGUMENT);
        int speed = hands.get(hand)[1];
        int cost = wide * (MINUTES[kind] / speed + (MINUTES[kind] % speed > 0 ? 1 : 0));
        int used = used(hand);
        refuseUnless(used + cost <= 360 && layers.size() < 60, STATE);
        boolean legal = permitted(wall) == hands.get(hand)[0];
        List<Integer> wronged = wronged(hand, wall, from, wide, kind);
        for (int other : wronged) {
            wrongs.add(new int[] {hand, other});
        }
        boolean isCaught = false;
        for (int minute = used; minute < used + cost; minute++) {
            isCaught |= !legal && watched(wall, minute);
        }
        if (isCaught) {
            caught.add(new int[] {hand, 20 + 10 * kind});
        }
        work.add(new int[] {hand, cost, night});
        history.add(new int[] {wall, from, from + wide, layers.size()});
        layers.add(new int[] {hand, wall, from, wide, kind, wobble, night, legal ? 1 : 0});
        return wronged.size();
    }

    private int used(int hand) {
        int sum = 0;
        for (int[] row : work) {
            sum += row[0] == hand && row[2] == night ? row[1] : 0;
        }
        return sum;
    }

    private List<Integer> wronged(int hand, int wall, int from, int wide, int kind) {
        Set<Integer> below = new TreeSet<>();
        for (int cell = from; cell < from + wide; cell++) {
            below.add(shown(wall, cell));
        }
        below.remove(-1);
        boolean legal = permitted(wall) == hands.get(hand)[0];
        List<Integer> wronged = new ArrayList<>();
        for (int layer : below) {
            int[] l = layers.get(layer);
            boolean ofAnotherCrew = hands.get(l[0])[0] != hands.get(hand)[0];
            boolean code = ofAnotherCrew && kind <= l[4] && night - l[6] < 20 && !legal;
            if (l[0] != hand && (memorials.contains(layer) || code)) {
                wronged.add(l[0]);
            }
        }
        return wronged;
    }

    private int shown(int wall, int cell) {
        int layer = -1;
        for (int[] row : history) {
            if (row[0] == wall && row[1] <= cell && cell < row[2]) {
                layer = row[3];
            }
        }
        return layer;
    }

    private void takeOff(int wall, int cell) {
        history.add(new int[] {wall, cell, cell + 1, -1});
    }

    private boolean buffable(int wall, int cell) {
        int layer = shown(wall, cell);
        if (layer < 0) {
            return false;
        }
        int[] l = layers.get(layer);
        return l[7] == 0 || permitted(wall) != hands.get(l[0])[0];
    }

    private int buffables(int wall) {
        int count = 0;
        for (int cell = 0; cell < walls.get(wall)[0]; cell++) {
            count += buffable(wall, cell) ? 1 : 0;
        }
        return count;
    }

    private int coins() {
        return 30 + 5 * night - spent;
    }

    int buff(int wall) {
        needWall(wall);
        int cost = buffables(wall);
        refuseUnless(cost <= coins(), STATE);
        for (int cell = 0; cell < walls.get(wall)[0]; cell++) {
            if (buffable(wall, cell)) {
                takeOff(wall, cell);
            }
        }
        spent += cost;
        return cost;
    }

    int clear(int wall) {
        needWall(wall);
        int sum = 0;
        for (int layer = 0; layer < layers.size(); layer++) {
            int[] l = layers.get(layer);
            if (l[1] == wall && l[7] == 1 && l[4] >= 2 && !waived.contains(layer)) {
                int due = 5 * WEIGHT[l[4]] * seen(layer);
                owed.add(new int[] {l[0], due});
                sum += due;
            }
        }
        history.add(new int[] {wall, 0, 16, -1});
        return sum;
    }

    private int seen(int layer) {
        int wall = layers.get(layer)[1];
        int count = 0;
        for (int cell = 0; cell < walls.get(wall)[0]; cell++) {
            count += shown(wall, cell) == layer ? 1 : 0;
        }
        return count;
    }

    int sell(int layer) {
        needLayer(layer);
        refuseUnless(seen(layer) > 0, STATE);
        int price = price(layer);
        int wall = layers.get(layer)[1];
        for (int cell = 0; cell < walls.get(wall)[0]; cell++) {
            if (shown(wall, cell) == layer) {
                takeOff(wall, cell);
            }
        }
        sold += price;
        return price;
    }

    private int price(int layer) {
        int[] l = layers.get(layer);
        return WEIGHT[l[4]] * seen(layer) * (10 + fame(l[0]) / 10);
    }

    private int fame(int hand) {
        int fame = 0;
        for (int layer = 0; layer < layers.size(); layer++) {
            int[] l = layers.get(layer);
            fame += l[0] == hand ? seen(layer) * WEIGHT[l[4]] * walls.get(l[1])[1] : 0;
        }
        return fame;
    }

    int waive(int layer) {
        needLayer(layer);
        return waived.add(layer) ? 1 : 0;
    }

    int remember(int layer) {
        needLayer(layer);
        return memorials.add(layer) ? 1 : 0;
    }

    int pay(int hand) {
        needHand(hand);
        int fines = fines(hand);
        payments.add(new int[] {hand, fines});
        return fines;
    }

    private int fines(int hand) {
        return sum(caught, hand) - sum(payments, hand);
    }

    private static int sum(List<int[]> rows, int key) {
        int sum = 0;
        for (int[] row : rows) {
            sum += row[0] == key ? row[1] : 0;
        }
        return sum;
    }

    private static int count(List<int[]> rows, int column, int key) {
        int count = 0;
        for (int[] row : rows) {
            count += row[column] == key ? 1 : 0;
        }
        return count;
    }

    int pass(int nights) {
        refuseUnless(in(nights, 1, 30), ARGUMENT);
        refuseUnless(night + nights <= 400, STATE);
        int bared = 0;
        for (int i = 0; i < nights; i++) {
            night++;
            for (int wall = 0; wall < walls.size(); wall++) {
                int cleaning = walls.get(wall)[3];
                if (cleaning != 0 && night % cleaning == 0) {
                    bared += ofWall(wall, 4);
                    history.add(new int[] {wall, 0, 16, -1});
                }
            }
        }
        return bared;
    }

    int ofWall(int wall, int what) {
        needWall(wall);
        refuseUnless(in(what, 0, 6), ARGUMENT);
        return allOfWall(wall)[what];
    }

    private int[] allOfWall(int wall) {
        int[] w = walls.get(wall);
        int painted = 0;
        Set<Integer> seen = new TreeSet<>();
        for (int cell = 0; cell < w[0]; cell++) {
            int layer = shown(wall, cell);
            painted += layer >= 0 ? 1 : 0;
            seen.add(layer);
        }
        seen.remove(-1);
        return new int[] {w[0], w[1], w[2], permitted(wall), painted, w[1] * buffables(wall), seen.size()};
    }

    int shows(int wall, int cell) {
        needWall(wall);
        refuseUnless(in(cell, 0, walls.get(wall)[0] - 1), INDEX);
        return shown(wall, cell);
    }

    int ofHand(int hand, int what) {
        needHand(hand);
        refuseUnless(in(what, 0, 10), ARGUMENT);
        return allOfHand(hand)[what];
    }

    private int[] allOfHand(int hand) {
        int seen = 0;
        for (int layer = 0; layer < layers.size(); layer++) {
            seen += layers.get(layer)[0] == hand && seen(layer) > 0 ? 1 : 0;
        }
        return new int[] {
            hands.get(hand)[0], 360 - used(hand), fines(hand), known(hand) ? 1 : 0, fame(hand),
            count(layers, 0, hand), seen, count(wrongs, 0, hand), count(wrongs, 1, hand),
            sum(owed, hand), count(caught, 0, hand),
        };
    }

    private boolean known(int hand) {
        return count(caught, 0, hand) > 0;
    }

    private int slant(int layer) {
        return hands.get(layers.get(layer)[0])[2] + layers.get(layer)[5];
    }

    private int round(int layer) {
        return hands.get(layers.get(layer)[0])[3] - layers.get(layer)[5];
    }

    private int suspect(int layer) {
        int suspect = -1;
        int smallest = Integer.MAX_VALUE;
        for (int hand = 0; hand < hands.size(); hand++) {
            int sum = Math.abs(hands.get(hand)[2] - slant(layer)) + Math.abs(hands.get(hand)[3] - round(layer));
            if (known(hand) && sum < smallest) {
                suspect = hand;
                smallest = sum;
            }
        }
        return suspect;
    }

    int ofLayer(int layer, int what) {
        needLayer(layer);
        refuseUnless(in(what, 0, 13), ARGUMENT);
        return allOfLayer(layer)[what];
    }

    private int[] allOfLayer(int layer) {
        int[] l = layers.get(layer);
        return new int[] {
            l[0], l[1], l[2], l[3], l[4], l[6], l[7], waived.contains(layer) ? 1 : 0,
            memorials.contains(layer) ? 1 : 0, seen(layer), slant(layer), round(layer), price(layer),
            suspect(layer),
        };
    }

    int wrongs(int one, int other) {
        needHand(one);
        needHand(other);
        int count = 0;
        for (int[] row : wrongs) {
            count += row[0] == one && row[1] == other ? 1 : 0;
        }
        return count;
    }

    int likeness(int one, int other) {
        needLayer(one);
        needLayer(other);
        return 20 - Math.abs(slant(one) - slant(other)) - Math.abs(round(one) - round(other));
    }

    int many(int what) {
        refuseUnless(in(what, 0, 11), ARGUMENT);
        return allOfMany()[what];
    }

    private int[] allOfMany() {
        int seen = 0;
        int mistaken = 0;
        for (int layer = 0; layer < layers.size(); layer++) {
            boolean isSeen = seen(layer) > 0;
            int suspect = suspect(layer);
            seen += isSeen ? 1 : 0;
            mistaken += isSeen && suspect >= 0 && suspect != layers.get(layer)[0] ? 1 : 0;
        }
        int known = 0;
        int fines = 0;
        int owedTogether = 0;
        for (int hand = 0; hand < hands.size(); hand++) {
            known += known(hand) ? 1 : 0;
            fines += fines(hand);
            owedTogether += sum(owed, hand);
        }
        return new int[] {
            night, walls.size(), hands.size(), layers.size(), seen, coins(), wrongs.size(), known, fines,
            owedTogether, sold, mistaken,
        };
    }

    double meanFame() {
        double sum = 0;
        for (int hand = 0; hand < hands.size(); hand++) {
            sum += fame(hand);
        }
        return hands.isEmpty() ? 0 : sum / hands.size();
    }

    int bestFrom(int hand, int wall, int wide, int kind) {
        needHand(hand);
        needWall(wall);
        refuseUnless(in(wide, 1, 16) && in(kind, 0, 3), ARGUMENT);
        int best = -1;
        long bestValue = 0;
        for (int from = walls.get(wall)[0] - wide; from >= 0; from--) {
            long value = -100000L * wronged(hand, wall, from, wide, kind).size()
                + fameThen(hand, wall, from, wide, kind);
            if (best < 0 || value >= bestValue) {
                best = from;
                bestValue = value;
            }
        }
        return best;
    }

    /** Its fame, if it had painted so: it is painted, asked, and taken back. */
    private int fameThen(int hand, int wall, int from, int wide, int kind) {
        history.add(new int[] {wall, from, from + wide, layers.size()});
        layers.add(new int[] {hand, wall, from, wide, kind, 0, night, 0});
        int fame = fame(hand);
        layers.remove(layers.size() - 1);
        history.remove(history.size() - 1);
        return fame;
    }

    int wouldWrong(int hand, int wall, int from, int wide, int kind) {
        needHand(hand);
        needWall(wall);
        refuseUnless(from >= 0 && wide >= 1 && (long) from + wide <= walls.get(wall)[0] && in(kind, 0, 3),
            ARGUMENT);
        return wronged(hand, wall, from, wide, kind).size();
    }

    int nextBuff() {
        int next = -1;
        for (int wall = walls.size() - 1; wall >= 0; wall--) {
            int eyesore = ofWall(wall, 5);
            boolean isGreatest = next < 0 || eyesore >= ofWall(next, 5);
            next = eyesore > 0 && buffables(wall) <= coins() && isGreatest ? wall : next;
        }
        return next;
    }

    int wouldFame(int hand, int nights) {
        needHand(hand);
        refuseUnless(in(nights, 0, 30), ARGUMENT);
        int fame = 0;
        for (int layer = 0; layer < layers.size(); layer++) {
            int[] l = layers.get(layer);
            int[] w = walls.get(l[1]);
            boolean stays = w[3] == 0 || (night + nights) / w[3] == night / w[3];
            fame += l[0] == hand && stays ? seen(layer) * WEIGHT[l[4]] * w[1] : 0;
        }
        return fame;
    }

    /** All its numbers without any wrap-around, and of the sum its last 64 bits. */
    long digest() {
        List<Integer> numbers = new ArrayList<>();
        addAll(numbers, allOfMany());
        for (int wall = 0; wall < walls.size(); wall++) {
            addAll(numbers, allOfWall(wall));
            for (int cell = 0; cell < walls.get(wall)[0]; cell++) {
                numbers.add(shown(wall, cell));
            }
        }
        for (int hand = 0; hand < hands.size(); hand++) {
            addAll(numbers, allOfHand(hand));
            for (int other = 0; other < hands.size(); other++) {
                numbers.add(wrongs(hand, other));
            }
            numbers.add(wouldFame(hand, 7));
        }
        for (int layer = 0; layer < layers.size(); layer++) {
            addAll(numbers, allOfLayer(layer));
        }
        numbers.add(nextBuff());
        if (!walls.isEmpty() && !hands.isEmpty()) {
            numbers.add(bestFrom(0, 0, 2, 1));
        }
        BigInteger d = BigInteger.valueOf(58232);
        for (int number : numbers) {
            d = d.multiply(BigInteger.valueOf(31)).add(BigInteger.valueOf(number));
        }
        return d.longValue();
    }

    private static void addAll(List<Integer> numbers, int[] more) {
        for (int number : more) {
            numbers.add(number);
        }
    }
}
