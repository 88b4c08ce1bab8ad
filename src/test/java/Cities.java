/** Ways to bring a city to the ends of what the document allows. */
final class Cities {
    private Cities() {
    }

    /** A city of one WALL of 16 CELLS with SIGHT 1 and one HAND of CREW 0 with SPEED 9. */
    static Wallcode small() {
        Wallcode city = new Wallcode();
        city.wall(16, 1, 0, 0);
        city.hand(0, 9, 3, 6);
        return city;
    }

    static Wallcode withWalls(int walls) {
        Wallcode city = new Wallcode();
        for (int wall = 0; wall < walls; wall++) {
            city.wall(4 + wall, 1 + wall, wall % 4, 0);
        }
        return city;
    }

    static Wallcode withHands(int hands) {
        Wallcode city = new Wallcode();
        for (int hand = 0; hand < hands; hand++) {
            city.hand(hand % 4, 1 + hand, hand, 9 - hand);
        }
        return city;
    }

    /** A WALL of 16 CELLS, the HANDS 0 and 1 of the CREWS 0 and 1, and so many LAYERS of one CELL. */
    static Wallcode withLayers(int layers) {
        Wallcode city = small();
        city.hand(1, 9, 4, 5);
        for (int layer = 0; layer < layers; layer++) {
            city.paint(0, 0, layer % 16, 1, 0, 0);
        }
        return city;
    }

    static Wallcode small(int night) {
        Wallcode city = small();
        passTo(city, night);
        return city;
    }

    /** The NIGHT goes on up to this one. */
    static void passTo(Wallcode city, int night) {
        for (int left = night - city.many(0); left > 0; left = night - city.many(0)) {
            city.pass(Math.min(left, 30));
        }
    }

    /** A HAND with SPEED 9 uses up so many minutes on a WALL of 16 CELLS: BURNERS take 10 each, TAGS 1. */
    static void useUp(Wallcode city, int hand, int wall, int minutes) {
        int left = minutes;
        while (left > 0) {
            int kind = left >= 10 ? 3 : 0;
            int wide = left >= 10 ? Math.min(left / 10, 16) : left;
            city.paint(hand, wall, 0, wide, kind, 0);
            left -= left >= 10 ? 10 * wide : wide;
        }
    }

    /** Up to 30 COINS are spent on BUFFING a WALL of 16 CELLS that a HAND with SPEED 9 paints. */
    static void spend(Wallcode city, int hand, int wall, int coins) {
        int left = coins;
        while (left > 0) {
            int wide = Math.min(left, 16);
            city.paint(hand, wall, 0, wide, 0, 0);
            left -= city.buff(wall);
        }
    }
}
