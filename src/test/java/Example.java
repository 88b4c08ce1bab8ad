/** The example of README.md, to the letter; behind each line that prints stands what it prints. */
public final class Example {
    public static void main(String[] args) {
        Wallcode city = new Wallcode();

        // What is told: each WALL and each HAND is answered its number, from 0 on.
        int wall = city.wall(8, 5, 0, 7);       // WIDTH 8, SIGHT 5, OWNER 0, a CLEANING each 7 NIGHTS
        int ann = city.hand(0, 4, 3, 6);        // CREW 0, SPEED 4, SLANT 3, ROUND 6
        int ben = city.hand(1, 9, 4, 5);
        print(city.permit(wall, 0, 3));         // -1: no CREW had the PERMIT; CREW 0 has it up to NIGHT 3
        print(city.watch(wall, 5, 9));          // 5: so many minutes has the WATCH

        // What is done: LAYERS are numbered from 0 on, too, as they are painted.
        print(city.paint(ann, wall, 0, 4, 2, 0));   // 0: a PIECE on CELLS 0 to 3, LEGAL, over nothing
        print(city.paint(ben, wall, 2, 3, 1, 1));   // 1: a THROW-UP on CELLS 2 to 4, a WRONG against ann

        // What is asked.
        print(city.shows(wall, 2));             // 1: the later LAYER
        print(city.shows(wall, 7));             // -1: the CELL is BARE
        print(city.ofHand(ann, 1));             // 300: minutes left, 4 CELLS took 15 each
        print(city.ofHand(ann, 4));             // 40: her FAME, 2 CELLS times SIGHT 5 times WEIGHT 4
        print(city.ofHand(ben, 2));             // 30: his FINES, his minutes 5 to 8 are in the WATCH
        print(city.wrongs(ben, ann));           // 1
        print(city.ofLayer(0, 12));             // 112: its PRICE, 4 times 2 CELLS times (10 and 40 / 10)
        print(city.likeness(0, 1));             // 16: 20 less 2 for the SLANTS 3, 5 and 2 for the ROUNDS 6, 4
        print(city.many(5));                    // 30: the COINS
        print(city.meanFame());                 // 35.0

        // What would be: nothing is changed by that.
        print(city.wouldWrong(ben, wall, 0, 4, 3)); // 0: the Code lets a BURNER go over a PIECE
        print(city.bestFrom(ben, wall, 2, 0));  // 5: from there he covers neither her CELLS nor his own
        print(city.nextBuff());                 // 0: the WALL with the greatest EYESORE

        // What is refused throws, and changes nothing.
        try {
            city.paint(ben, wall, 6, 3, 0, 0);
        } catch (IllegalArgumentException e) {
            print("there is no CELL 8");        // there is no CELL 8
        }
        print(city.sell(1));                    // 78: the PRICE that it had
        try {
            city.sell(1);
        } catch (IllegalStateException e) {
            print("LAYER 1 is not SEEN");       // LAYER 1 is not SEEN
        }
        try {
            city.sell(2);
        } catch (IndexOutOfBoundsException e) {
            print("there is no LAYER 2");       // there is no LAYER 2
        }

        // And on it goes.
        print(city.pass(1));                    // 0: so many CELLS were cleaned
        print(city.remember(0));                // true: it was no MEMORIAL
        print(city.paint(ben, wall, 1, 7, 3, 0));   // 1: over a MEMORIAL it is a WRONG by any KIND
        print(city.buff(wall));                 // 7: so many CELLS are BARE by that, and cost 1 each
        print(city.clear(wall));                // 20: owed to ann for the CELL that was left of her PIECE
        print(city.pay(ben));                   // 80: he was CAUGHT with the BURNER, too
    }

    private static void print(Object answer) {
        System.out.println(answer);
    }
}
