/** Promises 7 to 10, by hand. */
public final class WayTest {
    private static final Due due = new Due();

    public static void main(String[] args) {
        newWays();
        lines();
        wants();
        feels();
        cuts();
        wrongTakes();
        rides();
        due.end("WayTest");
    }

    private static void newWays() {
        HillRider x = new HillRider();
        due.be("way(7, 10)", x.way(7, 10), -1);
        due.be("way(-1, 0)", x.way(-1, 0), -1);
        due.be("way(0, 10)", x.way(0, 10), -2);
        due.be("way(6, -1)", x.way(6, -1), -2);
        for (int i = 0; i < 8; i++) {
            due.be("way", x.way(i % 7, i), i);
        }
        due.be("a ninth", x.way(0, 0), -4);
        due.be("a ninth of no kind", x.way(7, 0), -1);
        due.be("a ninth of no v", x.way(0, 10), -2);
        due.be("count(1)", x.count(1), 8);
        Due.road(x, "piece 1 5 5");
        due.be("ways stay by a road", x.count(1), 8);
    }

    private static void lines() {
        HillRider x = new HillRider();
        x.way(2, 0);
        x.way(5, 0);
        for (int piece = 0; piece < 8; piece++) {
            due.be("first", x.line(1, piece, piece), -5);
        }
        for (int piece = 0; piece < 8; piece++) {
            due.be("again", x.line(1, piece, -1), piece);
            due.be("none", x.line(1, piece, 9), -5);
        }
        due.be("way 2", x.line(2, 0, 10), -1);
        due.be("way -1", x.line(-1, 0, 10), -1);
        due.be("piece 8", x.line(0, 8, 10), -1);
        due.be("piece -1", x.line(1, -1, 10), -1);
        due.be("effort 10", x.line(0, 0, 10), -2);
        due.be("effort -2", x.line(1, 0, -2), -2);
        due.be("sloped has none", x.line(0, 0, 1), -3);
        due.be("nothing changed", x.line(1, 0, 3), 9);
        x.way(5, 0);
        due.be("each its own", x.line(2, 0, 3), -5);
    }

    private static void wants() {
        HillRider x = Due.on("piece 1 5 5;piece 1 8 5;piece 1 2 6;piece 1 0 5;piece 1 9 9;bar 3;store 60");
        for (int kind = 0; kind < 7; kind++) {
            x.way(kind, 2);
        }
        x.line(5, 1, 0);
        x.line(5, 2, 9);
        x.line(5, 7, 9);
        int[][] wants = {{3, 3, 3, 3, 3}, {2, 2, 2, 2, 2}, {3, 6, 1, 0, 8}, null, null, {3, 0, 9, 0, 8}, {3, 3, 5, 5, 5}};
        for (int way = 0; way < 7; way++) {
            for (int piece = 0; wants[way] != null && piece < 5; piece++) {
                due.be("takes(" + way + ", " + piece + ")", x.takes(way, piece, 60), wants[way][piece]);
            }
        }
        for (int piece = 0; piece < 5; piece++) {
            for (int store = 0; store <= 60; store += 7) {
                due.be("as the soonest", x.takes(3, piece, store), x.soonest(piece, store, 10 + piece));
            }
        }
        x.line(5, 1, -1);
        due.be("as sloped again", x.takes(5, 1, 60), 6);
        HillRider y = Due.on("piece 1 9 9;piece 1 0 0;bar 9;store 60;back 0");
        y.way(2, 0);
        y.way(6, 0);
        due.be("9 at most, sloped", y.takes(0, 0, 60), 9);
        due.be("sloped downhill", y.takes(0, 1, 60), 4);
        due.be("9 at most, follow", y.takes(1, 0, 60), 9);
        HillRider z = Due.on("piece 1 0 0;bar 2");
        z.way(2, 0);
        due.be("0 at least", z.takes(0, 0, 0), 0);
    }

    private static void feels() {
        HillRider x = Due.on("piece 1 5 5;piece 1 5 5;piece 1 5 5;bar 4;store 30");
        x.way(4, 6);
        due.be("first, 30", x.takes(0, 0, 30), 6);
        due.be("first, 29", x.takes(0, 0, 29), 4);
        due.be("second, 20", x.takes(0, 1, 20), 6);
        due.be("second, 19", x.takes(0, 1, 19), 4);
        due.be("third, 10", x.takes(0, 2, 10), 6);
        due.be("third, 9", x.takes(0, 2, 9), 4);
    }

    private static void cuts() {
        HillRider x = Due.on("piece 3 5 5;bar 4");
        x.way(1, 9);
        due.be("15 for 9", x.takes(0, 0, 15), 9);
        due.be("14", x.takes(0, 0, 14), 8);
        due.be("5", x.takes(0, 0, 5), 5);
        due.be("2", x.takes(0, 0, 2), 4);
        due.be("0", x.takes(0, 0, 0), 4);
        HillRider y = Due.on("piece 9 5 5;bar 0;store 8");
        y.way(1, 9);
        due.be("0 always can", y.takes(0, 0, 8), 0);
    }

    private static void wrongTakes() {
        HillRider x = Due.on("piece 3 5 5;store 7");
        x.way(0, 0);
        due.be("way 1", x.takes(1, 0, 8), -1);
        due.be("way -1", x.takes(-1, 0, 8), -1);
        due.be("piece 1", x.takes(0, 1, 8), -1);
        due.be("piece -1", x.takes(0, -1, 8), -1);
        due.be("store 8", x.takes(0, 0, 8), -2);
        due.be("store -1", x.takes(0, 0, -1), -2);
        due.be("store 7", x.takes(0, 0, 7), 4);
    }

    private static void rides() {
        HillRider x = Due.on("piece 2 5 5;piece 1 5 5;piece 2 8 5;store 10;back 6");
        x.way(1, 8);
        due.be("seconds", x.ride(0, 0), 4 + 3 + 10);
        due.be("store 10-8-2-0", x.ride(0, 1), 0);
        due.be("first", x.ride(0, 10), 8);
        due.be("second", x.ride(0, 11), 6);
        due.be("third", x.ride(0, 12), 4);
        due.be("no fourth", x.ride(0, 13), -1);
        due.be("what 2", x.ride(0, 2), -1);
        due.be("what 9", x.ride(0, 9), -1);
        due.be("what -1", x.ride(0, -1), -1);
        due.be("way 1", x.ride(1, 0), -1);
        HillRider y = new HillRider();
        y.way(0, 0);
        due.be("no pieces", y.ride(0, 0), -3);
        due.be("no pieces, 1", y.ride(0, 1), -3);
        due.be("no pieces, no what", y.ride(0, 3), -1);
        due.be("no pieces, no way", y.ride(1, 0), -1);
    }
}
