/** Objects to begin a test with. */
final class Made {
    private Made() {
    }

    /** Some of everything, an image of another state, and room for one more of each. */
    static HillRider busy() {
        HillRider x = Due.on("piece 3 6 5;ease 3 r<5;store 9");
        for (int kind = 0; kind < 3; kind++) {
            x.way(kind, kind + 1);
        }
        x.row(3);
        Due.feed(x, "bar ");
        x.image();
        Due.road(x, "9;piece 2 7 5;piece 1 5 6;piece 3 4 5;bar 4;store 18;heat 3;bend 2 30");
        for (int kind = 3; kind < 7; kind++) {
            x.way(kind, kind + 1);
        }
        x.line(5, 0, 7);
        x.line(5, 2, 0);
        x.line(5, 7, 9);
        x.row(9);
        x.row(5);
        Due.feed(x, "piece 7 3 2;bar ");
        x.act(3, 2, 10);
        return x;
    }

    /** Ways 0 to 6 of the kinds 0 to 6, each with the v 3, and no road. */
    static HillRider roadless() {
        HillRider x = new HillRider();
        for (int kind = 0; kind < 7; kind++) {
            x.way(kind, 3);
        }
        x.row(4);
        x.act(3, 2, 10);
        return x;
    }

    /** As much of everything as there may be; the road that holds has one piece. */
    static HillRider full() {
        HillRider x = new HillRider();
        for (int i = 1; i <= 5; i++) {
            Due.road(x, "piece " + i + " 5 5");
        }
        for (int i = 0; i < 8; i++) {
            x.way(i % 7, i);
            x.row(i);
        }
        for (int i = 0; i < 15; i++) {
            x.feed(-1, 8);
        }
        x.act(3, 2, 10);
        return x;
    }

    /** Eight pieces alike, and what else the clauses say. */
    static HillRider eight(String piece, String clauses) {
        return Due.on(pieces(8, piece) + clauses);
    }

    static String pieces(int count, String piece) {
        StringBuilder text = new StringBuilder(piece);
        for (int i = 1; i < count; i++) {
            text.append(';').append(piece);
        }
        return text.toString();
    }
}
