import java.util.ArrayList;
import java.util.List;

/** Calls in a row, done on the program and on the plain city alike. */
final class Script {
    /** So many calls a city serves besides those of its script, that all stay within its 512. */
    private static final int MOST_CALLS = 500;

    final String title;
    private final List<int[]> rows = new ArrayList<>();
    private final List<Integer> calls = new ArrayList<>();
    private Wallcode served;
    private int left;

    Script(String title) {
        this.title = title;
    }

    Script then(int call, int... arguments) {
        calls.add(call);
        rows.add(arguments);
        return this;
    }

    Wallcode city() {
        Wallcode city = new Wallcode();
        for (int i = 0; i < rows.size(); i++) {
            Calls.answer(city, calls.get(i), rows.get(i));
        }
        return city;
    }

    PlainCity plain() {
        PlainCity plain = new PlainCity();
        for (int i = 0; i < rows.size(); i++) {
            Calls.due(plain, calls.get(i), rows.get(i));
        }
        return plain;
    }

    /** A city that has so many calls left: the one of before, or one made anew. Nobody may change it. */
    Wallcode cityFor(int more) {
        if (served == null || left < more) {
            served = city();
            left = MOST_CALLS - rows.size();
        }
        left -= more;
        return served;
    }

    /** The script, with each answer compared to that of the plain city. */
    void check(Checks checks) {
        Wallcode city = new Wallcode();
        PlainCity plain = new PlainCity();
        for (int i = 0; i < rows.size(); i++) {
            checks.isText(title + ", call " + i + ": " + Calls.text(calls.get(i), rows.get(i)),
                Calls.due(plain, calls.get(i), rows.get(i)), Calls.answer(city, calls.get(i), rows.get(i)));
        }
    }

    // ---- cities at the ends of what there can be

    static Script empty() {
        return new Script("nothing there yet");
    }

    static Script onlyWalls() {
        return new Script("WALLS alone").then(Calls.WALL, 4, 1, 0, 0).then(Calls.WALL, 16, 9, 3, 2);
    }

    static Script onlyHands() {
        return new Script("HANDS alone").then(Calls.HAND, 0, 1, 0, 9).then(Calls.HAND, 3, 9, 9, 0);
    }

    /** WALLS of 16, 5 and 4 CELLS, HANDS of three CREWS, a PERMIT, a WATCH, and nine LAYERS up to NIGHT 5. */
    static Script ordinary() {
        return new Script("an ordinary city")
            .then(Calls.WALL, 16, 5, 0, 0).then(Calls.WALL, 5, 9, 1, 7).then(Calls.WALL, 4, 2, 2, 20)
            .then(Calls.HAND, 0, 9, 3, 6).then(Calls.HAND, 1, 7, 4, 5).then(Calls.HAND, 2, 9, 8, 2)
            .then(Calls.HAND, 0, 2, 0, 9)
            .then(Calls.PERMIT, 0, 1, 7).then(Calls.WATCH, 0, 4, 6)
            .then(Calls.PAINT, 0, 0, 0, 5, 0, 0).then(Calls.PAINT, 1, 0, 3, 4, 2, 1)
            .then(Calls.PAINT, 2, 0, 2, 6, 0, -1).then(Calls.PAINT, 3, 1, 0, 5, 1, 2)
            .then(Calls.REMEMBER, 0).then(Calls.WAIVE, 3).then(Calls.PASS, 5)
            .then(Calls.PAINT, 1, 0, 8, 3, 3, 0).then(Calls.PAINT, 0, 1, 1, 2, 1, 0)
            .then(Calls.PAINT, 2, 0, 4, 1, 0, -1).then(Calls.PAINT, 3, 2, 3, 1, 0, -2)
            .then(Calls.PAINT, 0, 2, 0, 2, 0, 0).then(Calls.WATCH, 0, 5, 6).then(Calls.PERMIT, 0, 0, 6);
    }

    /** No COINS are left, and HAND 0 has no minutes left. */
    static Script spent() {
        return new Script("without COINS and minutes")
            .then(Calls.WALL, 16, 5, 0, 3).then(Calls.WALL, 4, 9, 1, 0)
            .then(Calls.HAND, 0, 9, 3, 6).then(Calls.HAND, 1, 1, 4, 5)
            .then(Calls.PAINT, 0, 0, 0, 16, 3, 0).then(Calls.BUFF, 0)
            .then(Calls.PAINT, 0, 0, 2, 14, 3, 0).then(Calls.BUFF, 0)
            .then(Calls.PAINT, 0, 0, 0, 6, 3, 1).then(Calls.PAINT, 1, 1, 0, 4, 1, 0)
            .then(Calls.WATCH, 1, 0, 359).then(Calls.PERMIT, 1, 1, 0);
    }

    /** 6 WALLS, 8 HANDS and 60 LAYERS in NIGHT 400, where HAND 0 has no minutes left. */
    static Script full() {
        Script full = new Script("all that there can be");
        for (int wall = 0; wall < 6; wall++) {
            full.then(Calls.WALL, wall < 3 ? 16 : 4 + wall, 9 - wall, wall % 4, wall == 4 ? 20 : 0);
        }
        for (int hand = 0; hand < 8; hand++) {
            full.then(Calls.HAND, hand % 4, 9, 9 - hand, 3 * hand % 10);
        }
        full.then(Calls.WATCH, 1, 0, 3).then(Calls.WATCH, 5, 10, 359).then(Calls.PERMIT, 2, 2, 400);
        for (int layer = 0; layer < 30; layer++) {
            int wall = layer % 6;
            full.then(Calls.PAINT, layer * 3 % 8, wall, layer % 5, 1 + layer % 4, layer % 4, layer % 5 - 2);
        }
        full.then(Calls.REMEMBER, 6).then(Calls.REMEMBER, 13).then(Calls.WAIVE, 20);
        full.then(Calls.SELL, 29).then(Calls.CLEAR, 3);
        for (int times = 0; times < 13; times++) {
            full.then(Calls.PASS, 30);
        }
        full.then(Calls.PASS, 10).then(Calls.PERMIT, 0, 1, 400);
        for (int layer = 30; layer < 57; layer++) {
            int wall = layer % 6;
            full.then(Calls.PAINT, layer % 7 + 1, wall, layer % 4, 1 + layer % 4, layer % 3, 0);
        }
        return full.then(Calls.PAINT, 0, 0, 0, 16, 3, 0).then(Calls.PAINT, 0, 1, 0, 16, 3, 0)
            .then(Calls.PAINT, 0, 2, 8, 4, 3, 0);
    }
}
