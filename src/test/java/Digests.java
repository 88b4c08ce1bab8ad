/** The checksum of promise 26, added up from the answers of the other calls. */
final class Digests {
    private long sum = 58232L;

    private void add(long value) {
        sum = sum * 31 + value;
    }

    static long of(Wallcode city) {
        Digests digests = new Digests();
        for (int what = 0; what <= 11; what++) {
            digests.add(city.many(what));
        }
        digests.addWalls(city);
        digests.addHands(city);
        for (int layer = 0; layer < city.many(3); layer++) {
            for (int what = 0; what <= 13; what++) {
                digests.add(city.ofLayer(layer, what));
            }
        }
        digests.add(city.nextBuff());
        if (city.many(1) > 0 && city.many(2) > 0) {
            digests.add(city.bestFrom(0, 0, 2, 1));
        }
        return digests.sum;
    }

    private void addWalls(Wallcode city) {
        for (int wall = 0; wall < city.many(1); wall++) {
            for (int what = 0; what <= 6; what++) {
                add(city.ofWall(wall, what));
            }
            for (int cell = 0; cell < city.ofWall(wall, 0); cell++) {
                add(city.shows(wall, cell));
            }
        }
    }

    private void addHands(Wallcode city) {
        for (int hand = 0; hand < city.many(2); hand++) {
            for (int what = 0; what <= 10; what++) {
                add(city.ofHand(hand, what));
            }
            for (int other = 0; other < city.many(2); other++) {
                add(city.wrongs(hand, other));
            }
            add(city.wouldFame(hand, 7));
        }
    }
}
