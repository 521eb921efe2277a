import java.io.IOException;

/** Promises 11 to 13: the soonest, what a store is worth, and what a way loses. */
public final class SoonestEdgesTest {
    /** On the flat 5 seconds by 0, 4 by 2, 3 by 4, 2 by 8; uphill these with each store. */
    private static final String UPHILL = "piece 1 5 5;piece 1 9 9;store 9";
    private static final int[] UPHILL_SECONDS = {13, 9, 7, 5, 5, 4, 4, 4, 4, 4};

    private SoonestEdgesTest() {
    }

    public static void main(String[] args) throws IOException {
        Edges edges = new Edges("SoonestEdgesTest");
        edges.test("==== 2", "the row of EFFORTS that CAN be with the fewest SECONDS to the end", SoonestEdgesTest::terms2FewestSeconds);
        edges.test("==== 2", "of several the one with the most STORE then", SoonestEdgesTest::terms2OfSeveralTheMostStore);
        edges.test("==== 2", "of several the one with the most STORE then, then the first as a row.",
            SoonestEdgesTest::terms2ThenTheFirstAsARow);
        edges.test("Promise 11", "10 and k the EFFORT on PIECE k (from that one on). NONE; BAD: store.",
            SoonestEdgesTest::promise11NoneBad);
        edges.test("==== 2", "PRICE of a PIECE and a STORE (1 or more) ahead of it", SoonestEdgesTest::terms2PriceOfAStore1OrMore);
        edges.test("==== 2", "how many SECONDS longer the SOONEST is with a STORE of 1 less.", SoonestEdgesTest::terms2PriceOf1Less);
        edges.test("Promise 12", "NONE; BAD: store (0, too).", SoonestEdgesTest::promise12NoneBad);
        edges.test("==== 2", "LOSES of a WAY: its SECONDS less those of the SOONEST, from the beginning.", SoonestEdgesTest::terms2Loses);
        edges.test("Promise 13", "LOSES. NONE; STATE.", SoonestEdgesTest::promise13NoneState);
        edges.end();
    }

    /** The seconds, the store at the end, and the efforts from the piece on. */
    private static void soonest(Due due, String road, int piece, int store, int... wants) {
        HillRider x = Due.on(road);
        for (int i = 0; i < wants.length; i++) {
            int what = i < 2 ? i : 8 + piece + i;
            due.be("soonest(" + piece + ", " + store + ", " + what + ") on " + road, x.soonest(piece, store, what), wants[i]);
        }
    }

    private static void terms2FewestSeconds(Due due) {
        // 13 seconds uphill by 4, 9 by 5, 7 by 6, 5 by 7 and 8, 4 by 9; on the flat 3 by 4, 2 by 8
        soonest(due, UPHILL, 0, 9, 6, 0, 8, 9);
        soonest(due, UPHILL, 0, 8, 7, 3, 4, 9);
        soonest(due, UPHILL, 0, 5, 7, 0, 4, 9);
        soonest(due, UPHILL, 0, 4, 8, 1, 4, 7);
        soonest(due, UPHILL, 0, 0, 12, 0, 0, 6);
        soonest(due, UPHILL, 1, 0, 13, 0, 4);
        soonest(due, UPHILL, 1, 9, 4, 4, 9);
        soonest(due, "piece 9 9 9;bar 0;store 0", 0, 0, 900, 0, 0);
        soonest(due, Made.pieces(8, "piece 1 5 5") + ";store 0", 0, 0, 24, 0, 4, 4, 4, 4, 4, 4, 4, 4);
        soonest(due, Made.pieces(8, "piece 1 5 5") + ";store 0", 7, 0, 3, 0, 4);
    }

    private static void terms2OfSeveralTheMostStore(Due due) {
        // 5 seconds by 0, 4 by 2: with 9 on the second piece, or with 7: nine both, and 0 or 1 left
        soonest(due, "piece 1 5 5;piece 1 9 9;bend 0 28", 0, 3, 9, 1, 2, 7);
        // uphill 5 seconds by 7 and by 8
        soonest(due, UPHILL, 1, 4, 5, 1, 7);
        // all take as long: what comes back tells
        soonest(due, "piece 1 5 5;bend 0 1;store 9", 0, 5, 100, 7, 0);
    }

    private static void terms2ThenTheFirstAsARow(Due due) {
        // 2 on the first or on the second: nine seconds and no store left both
        soonest(due, "piece 1 5 5;piece 1 5 5;bar 0;store 2;back 0;bend 0 28;bend 1 28", 0, 2, 9, 0, 0, 2);
        // nothing comes back: 0 to 4 are alike
        soonest(due, "piece 1 5 5;piece 1 5 5;bend 0 1;bend 1 1;back 0", 0, 9, 200, 9, 0, 0);
        // nothing more can be: 0 to 4 are alike
        soonest(due, "piece 1 5 5;bend 0 1", 0, 20, 100, 20, 0);
        // 4 seconds by 2, 3 and 4: by 2 one comes back, or with back 4 none, as by the others
        soonest(due, "piece 1 5 5;bend 0 30", 0, 5, 4, 6, 2);
        soonest(due, "piece 1 5 5;bend 0 30;back 4", 0, 5, 4, 5, 2);
    }

    private static void promise11NoneBad(Due due) {
        HillRider x = Made.busy();
        due.be("the fewest left", x.soonest(2, 0, 12) >= 0 ? 1 : 0, 1);
        due.be("the first", x.soonest(0, 18, 10) >= 0 ? 1 : 0, 1);
        due.refuse(Made::busy, -1, y -> y.soonest(-1, 0, 0), y -> y.soonest(3, 0, 0), y -> y.soonest(0, 0, -1),
            y -> y.soonest(0, 0, 2), y -> y.soonest(0, 0, 9), y -> y.soonest(0, 0, 13), y -> y.soonest(0, 0, 18),
            // ahead of the piece there is none
            y -> y.soonest(1, 0, 10), y -> y.soonest(2, 0, 11), y -> y.soonest(2, 0, 10),
            y -> y.soonest(Integer.MIN_VALUE, 0, 0), y -> y.soonest(Integer.MAX_VALUE, 0, 0),
            y -> y.soonest(0, 0, Integer.MIN_VALUE), y -> y.soonest(0, 0, Integer.MAX_VALUE));
        due.refuse(Made::busy, -2, y -> y.soonest(0, -1, 0), y -> y.soonest(0, 19, 0), y -> y.soonest(2, 19, 1),
            y -> y.soonest(2, -1, 12), y -> y.soonest(0, Integer.MIN_VALUE, 0), y -> y.soonest(0, Integer.MAX_VALUE, 0));
        // NONE ahead of BAD
        due.refuse(Made::busy, -1, y -> y.soonest(3, -1, 0), y -> y.soonest(0, 19, 2), y -> y.soonest(1, 19, 10));
        due.be("from the eighth on", Made.eight("piece 1 5 5", ";store 0").soonest(7, 0, 17), 4);
        due.refuse(() -> Made.eight("piece 1 5 5", ";store 0"), -1, y -> y.soonest(8, 0, 0), y -> y.soonest(7, 0, 16),
            y -> y.soonest(0, 0, 18));
        due.refuse(Made::roadless, -1, y -> y.soonest(0, 0, 0), y -> y.soonest(0, 21, 0));
    }

    private static void terms2PriceOfAStore1OrMore(Due due) {
        HillRider x = Due.on(UPHILL);
        for (int store = 1; store <= 9; store++) {
            due.be("PRICE of " + store, x.price(1, store), UPHILL_SECONDS[store - 1] - UPHILL_SECONDS[store]);
        }
        due.be("PRICE of 0", x.price(1, 0), -2);
        due.be("PRICE of 10", x.price(1, 10), -2);
    }

    private static void terms2PriceOf1Less(Due due) {
        HillRider x = Due.on(UPHILL);
        for (int store = 1; store <= 9; store++) {
            due.be("PRICE of " + store, x.price(0, store), x.soonest(0, store - 1, 0) - x.soonest(0, store, 0));
        }
        due.be("0 seconds longer", x.price(0, 8), 0);
        due.be("1 second longer", x.price(0, 9), 1);
        due.be("shorter", Due.on("piece 1 5 5;ease 15 r>8").price(0, 9), 2 - 3);
    }

    private static void promise12NoneBad(Due due) {
        due.refuse(Made::busy, -1, x -> x.price(-1, 1), x -> x.price(3, 1), x -> x.price(Integer.MIN_VALUE, 1),
            x -> x.price(Integer.MAX_VALUE, 1), x -> x.price(3, 0), x -> x.price(-1, 19));
        due.refuse(Made::busy, -2, x -> x.price(0, 0), x -> x.price(2, 0), x -> x.price(0, -1), x -> x.price(0, 19),
            x -> x.price(0, Integer.MIN_VALUE), x -> x.price(0, Integer.MAX_VALUE));
        due.be("a store of 1", Made.busy().price(2, 1) >= 0 ? 1 : 0, 1);
        due.be("a store of 18", Made.busy().price(2, 18), 0);
        // with a store of 0 there is none that may be told
        due.refuse(() -> Due.on("piece 1 5 5;store 0"), -2, x -> x.price(0, 0), x -> x.price(0, 1));
        due.refuse(Made::roadless, -1, x -> x.price(0, 1), x -> x.price(0, 0));
    }

    private static void terms2Loses(Due due) {
        HillRider x = Due.on(UPHILL);
        x.way(3, 0);
        x.way(0, 0);
        x.way(1, 9);
        x.way(1, 0);
        due.be("BEST loses nothing", x.loses(0), 0);
        due.be("WAY", x.loses(1), 3 + 13 - 6);
        due.be("EVEN 9", x.loses(2), 2 + 5 - 6);
        due.be("EVEN 0", x.loses(3), 5 + 100 - 6);
    }

    private static void promise13NoneState(Due due) {
        due.refuse(Made::busy, -1, x -> x.loses(-1), x -> x.loses(7), x -> x.loses(8), x -> x.loses(Integer.MIN_VALUE),
            x -> x.loses(Integer.MAX_VALUE));
        due.be("the seventh way", Made.busy().loses(6) >= 0 ? 1 : 0, 1);
        due.be("the eighth way", Made.full().loses(7) >= 0 ? 1 : 0, 1);
        due.refuse(Made::full, -1, x -> x.loses(8));
        due.refuse(Made::roadless, -3, x -> x.loses(0), x -> x.loses(6));
        due.refuse(Made::roadless, -1, x -> x.loses(7), x -> x.loses(-1));
    }
}
