import java.io.IOException;

/** Promises 9 and 10: the effort that a way takes, and a ride of it. */
public final class RideEdgesTest {
    private RideEdgesTest() {
    }

    public static void main(String[] args) throws IOException {
        Edges edges = new Edges("RideEdgesTest");
        edges.test("==== 2", "WAY: bar. EVEN: v.", RideEdgesTest::terms2WayAndEven);
        edges.test("==== 2", "SLOPED: bar and SLOPE, and 1 more, if WIND is above 0.", RideEdgesTest::terms2SlopedWindAbove0);
        edges.test("==== 2", "if STORE times how many PIECES there are is less than store times how many are left (this one, too)",
            RideEdgesTest::terms2FeelIsLessThan);
        edges.test("==== 2", "BEST: that of the SOONEST from there on.", RideEdgesTest::terms2BestFromThereOn);
        edges.test("==== 2", "TOLD: what its ROW tells for the PIECE (0 .. 9; without as SLOPED).", RideEdgesTest::terms2ToldOrAsSloped);
        edges.test("==== 2", "and 2 more on PIECES whose number is v or more.", RideEdgesTest::terms2FollowFromVOn);
        edges.test("==== 2", "What it wants is 0 at least, 9 at most", RideEdgesTest::terms2Wants0AtLeast9AtMost);
        edges.test("==== 2", "it takes the greatest EFFORT no more than that which CAN be (0 always can)",
            RideEdgesTest::terms2TakesTheGreatestThatCan);
        edges.test("Promise 9", "NONE; BAD: store.", RideEdgesTest::promise9NoneBad);
        edges.test("==== 2", "A RIDE of a WAY: PIECE by PIECE: all SECONDS, together; the STORE at the end; EFFORTS.",
            RideEdgesTest::terms2PieceByPiece);
        edges.test("Promise 10", "10 and k the EFFORT on PIECE k. NONE; STATE.", RideEdgesTest::promise10NoneState);
        edges.end();
    }

    private static void takes(Due due, String road, int kind, int v, int store, int... efforts) {
        HillRider x = Due.on(road);
        x.way(kind, v);
        for (int piece = 0; piece < efforts.length; piece++) {
            due.be("kind " + kind + ", v " + v + ", on " + piece + " of " + road, x.takes(0, piece, store), efforts[piece]);
        }
    }

    private static void terms2WayAndEven(Due due) {
        for (int n = 0; n <= 9; n++) {
            takes(due, "piece 1 9 9;piece 1 0 0;store 60;bar " + n, 0, 9 - n, 60, n, n);
            takes(due, "piece 1 9 9;piece 1 0 0;store 60;bar " + n, 1, 9 - n, 60, 9 - n, 9 - n);
        }
    }

    private static void terms2SlopedWindAbove0(Due due) {
        takes(due, "piece 1 5 4;piece 1 5 5;piece 1 5 6;piece 1 5 9;piece 1 5 0", 2, 0, 20, 4, 4, 5, 5, 4);
        takes(due, "piece 1 4 5;piece 1 6 5;piece 1 8 6;piece 1 2 6;piece 1 1 5", 2, 9, 20, 3, 5, 8, 2, 0);
    }

    private static void feels(Due due, String road, int piece, int store, int want) {
        HillRider x = Due.on(road);
        x.way(4, 6);
        due.be("FEEL on " + piece + " with " + store, x.takes(0, piece, store), want);
    }

    private static void terms2FeelIsLessThan(Due due) {
        String three = "piece 1 5 5;piece 1 5 5;piece 1 5 5;store 30";
        int[] just = {30, 20, 10};
        for (int piece = 0; piece < 3; piece++) {
            feels(due, three, piece, just[piece], 6);
            feels(due, three, piece, just[piece] - 1, 4);
            feels(due, three, piece, just[piece] - 2, 4);
        }
        feels(due, three, 1, 21, 6);
        feels(due, "piece 1 5 5;store 0;bar 7", 0, 0, 6);
        // 60 of 8: the last piece's part is 7 and a half
        String eight = Made.pieces(8, "piece 1 5 5") + ";store 60";
        feels(due, eight, 7, 8, 6);
        feels(due, eight, 7, 7, 4);
        feels(due, eight, 6, 15, 6);
        feels(due, eight, 6, 14, 4);
        feels(due, eight, 0, 60, 6);
        feels(due, eight, 0, 59, 4);
    }

    private static void terms2BestFromThereOn(Due due) {
        HillRider x = Due.on("piece 1 5 5;piece 1 9 9;store 5");
        x.way(3, 0);
        // uphill 13 seconds by 4, 9 by 5, 7 by 6, 5 by 7 and 8, 4 by 9
        int[] uphill = {4, 5, 6, 7, 7, 9};
        for (int store = 0; store <= 5; store++) {
            due.be("uphill with " + store, x.takes(0, 1, store), uphill[store]);
            due.be("as the soonest's first", x.takes(0, 0, store), x.soonest(0, store, 10));
        }
        due.be("what is on the first", x.takes(0, 0, 5), 4);
        HillRider ridden = Due.on("piece 1 5 5;piece 1 9 9;store 5");
        ridden.way(3, 0);
        due.be("the first that is asked", ridden.ride(0, 0), 3 + 4);
        due.be("on the second", ridden.ride(0, 11), 9);
    }

    private static void terms2ToldOrAsSloped(Due due) {
        HillRider x = Due.on("piece 1 8 6;piece 1 8 6;piece 1 8 6;piece 1 8 6");
        x.way(5, 9);
        x.line(0, 0, 0);
        x.line(0, 1, 9);
        x.line(0, 2, 4);
        x.line(0, 2, -1);
        due.be("0", x.takes(0, 0, 20), 0);
        due.be("9", x.takes(0, 1, 20), 9);
        due.be("none any more: 4 and 3 and 1", x.takes(0, 2, 20), 8);
        due.be("none: 4 and 3 and 1", x.takes(0, 3, 20), 8);
    }

    private static void terms2FollowFromVOn(Due due) {
        String road = Made.pieces(8, "piece 1 8 6");
        takes(due, road, 6, 0, 20, 6, 6, 6, 6, 6, 6, 6, 6);
        takes(due, road, 6, 1, 20, 4, 6, 6, 6, 6, 6, 6, 6);
        takes(due, road, 6, 4, 20, 4, 4, 4, 4, 6, 6, 6, 6);
        takes(due, road, 6, 7, 20, 4, 4, 4, 4, 4, 4, 4, 6);
        takes(due, road, 6, 8, 20, 4, 4, 4, 4, 4, 4, 4, 4);
        takes(due, road, 6, 9, 20, 4, 4, 4, 4, 4, 4, 4, 4);
    }

    private static void terms2Wants0AtLeast9AtMost(Due due) {
        takes(due, "piece 1 4 5;piece 1 3 5;piece 1 0 5;piece 1 3 6;piece 1 4 6;bar 1", 2, 0, 20, 0, 0, 0, 0, 1);
        takes(due, "piece 1 4 5;piece 1 0 0;piece 1 5 5;piece 1 6 5;bar 0", 2, 0, 20, 0, 0, 0, 1);
        takes(due, "piece 1 8 5;piece 1 8 6;piece 1 9 5;piece 1 9 9;bar 5", 2, 0, 20, 8, 9, 9, 9);
        takes(due, "piece 1 9 9;piece 1 9 5;piece 1 5 6;piece 1 5 5;bar 9", 2, 0, 20, 9, 9, 9, 9);
        takes(due, "piece 1 5 5;bar 6", 6, 0, 20, 8);
        takes(due, "piece 1 5 5;bar 7", 6, 0, 20, 9);
        takes(due, "piece 1 5 5;bar 8", 6, 0, 20, 9);
        takes(due, "piece 1 5 5;bar 9", 6, 0, 20, 9);
        // TOLD without as SLOPED: so cut, too
        takes(due, "piece 1 0 5;bar 4", 5, 0, 20, 0);
        takes(due, "piece 1 9 9;bar 9", 5, 0, 20, 9);
    }

    private static void terms2TakesTheGreatestThatCan(Due due) {
        int[] can = {4, 4, 4, 5, 5, 5, 6, 6, 6, 7, 7, 7, 8, 8, 8, 9, 9};
        for (int store = 0; store < can.length; store++) {
            takes(due, "piece 3 5 5", 1, 9, store, can[store]);
            takes(due, "piece 3 5 5", 1, 6, store, Math.min(6, can[store]));
            takes(due, "piece 3 5 5", 1, 4, store, 4);
            takes(due, "piece 3 5 5", 1, 3, store, 3);
        }
        takes(due, "piece 9 5 5;bar 0", 1, 9, 0, 0);
        takes(due, "piece 9 5 5;bar 0", 1, 9, 8, 0);
        takes(due, "piece 9 5 5;bar 0", 1, 9, 9, 1);
        takes(due, "piece 9 5 5;bar 0;store 0", 1, 9, 0, 0);
        takes(due, "piece 9 5 5;bar 0;store 0", 1, 0, 0, 0);
    }

    private static void promise9NoneBad(Due due) {
        for (int w = 0; w < 7; w++) {
            int way = w;
            due.refuse(Made::busy, -1, x -> x.takes(way, -1, 0), x -> x.takes(way, 3, 0));
            due.refuse(Made::busy, -2, x -> x.takes(way, 0, -1), x -> x.takes(way, 2, 19));
            due.refuse(Made::roadless, -1, x -> x.takes(way, 0, 0));
            int first = Made.busy().takes(way, 0, 0);
            due.be("store 0, piece 0", first >= 0 && first <= 9 ? 1 : 0, 1);
            int last = Made.busy().takes(way, 2, 18);
            due.be("store 18, piece 2", last >= 0 && last <= 9 ? 1 : 0, 1);
        }
        due.refuse(Made::busy, -1, x -> x.takes(-1, 0, 0), x -> x.takes(7, 0, 0), x -> x.takes(Integer.MIN_VALUE, 0, 0),
            x -> x.takes(Integer.MAX_VALUE, 0, 0), x -> x.takes(0, Integer.MIN_VALUE, 0), x -> x.takes(0, Integer.MAX_VALUE, 0));
        due.refuse(Made::busy, -2, x -> x.takes(0, 0, Integer.MIN_VALUE), x -> x.takes(0, 0, Integer.MAX_VALUE));
        // NONE ahead of BAD
        due.refuse(Made::busy, -1, x -> x.takes(7, 0, -1), x -> x.takes(0, 3, 19), x -> x.takes(-1, -1, -1));
        due.be("the eighth way", Made.full().takes(7, 0, 0), 4);
        due.refuse(Made::full, -1, x -> x.takes(8, 0, 0));
        due.be("the eighth piece", onEight().takes(0, 7, 0), 4);
        due.refuse(RideEdgesTest::onEight, -1, x -> x.takes(0, 8, 0));
    }

    private static HillRider onEight() {
        HillRider x = Made.eight("piece 1 5 5", "");
        x.way(0, 0);
        return x;
    }

    private static void terms2PieceByPiece(Due due) {
        HillRider x = Due.on("piece 2 5 5;piece 1 5 5;piece 2 8 5;store 10;back 6");
        x.way(1, 8);
        // by 8 with 10, by 6 with 2, by 4 with 0
        int[] ride = {4 + 3 + 10, 0, 8, 6, 4};
        for (int i = 0; i < ride.length; i++) {
            int what = i < 2 ? i : i + 8;
            due.be("ride(0, " + what + ")", x.ride(0, what), ride[i]);
            due.be("again", x.ride(0, what), ride[i]);
        }
        HillRider one = Due.on("piece 9 9 9;bar 0;store 60");
        one.way(1, 0);
        due.be("of one piece", one.ride(0, 0), 900);
        due.be("its store", one.ride(0, 1), 60);
        HillRider eight = Made.eight("piece 9 9 9", "");
        eight.way(1, 0);
        due.be("of eight pieces", eight.ride(0, 0), 7200);
        HillRider none = Due.on("piece 1 5 5;piece 1 5 5;store 0");
        none.way(1, 9);
        due.be("with no store", none.ride(0, 1), 0);
        due.be("its effort", none.ride(0, 11), 4);
    }

    private static void promise10NoneState(Due due) {
        due.be("on piece 0", Made.busy().ride(0, 10), 4);
        due.be("on piece 2", Made.busy().ride(0, 12), 4);
        due.refuse(Made::busy, -1, x -> x.ride(0, -1), x -> x.ride(0, 2), x -> x.ride(0, 9), x -> x.ride(0, 13),
            x -> x.ride(0, 17), x -> x.ride(0, Integer.MIN_VALUE), x -> x.ride(0, Integer.MAX_VALUE), x -> x.ride(-1, 0),
            x -> x.ride(7, 0), x -> x.ride(Integer.MIN_VALUE, 0), x -> x.ride(Integer.MAX_VALUE, 0));
        due.be("on piece 7", onEight().ride(0, 17), 4);
        due.refuse(RideEdgesTest::onEight, -1, x -> x.ride(0, 18), x -> x.ride(1, 17));
        due.be("of the eighth way", Made.full().ride(7, 0), Made.full().ride(0, 0));
        due.refuse(Made::full, -1, x -> x.ride(8, 0));
        due.refuse(Made::roadless, -3, x -> x.ride(0, 0), x -> x.ride(0, 1), x -> x.ride(6, 0), x -> x.ride(6, 1));
        // NONE ahead of STATE
        due.refuse(Made::roadless, -1, x -> x.ride(0, 2), x -> x.ride(0, 10), x -> x.ride(0, -1), x -> x.ride(7, 0), x -> x.ride(-1, 1));
    }
}
