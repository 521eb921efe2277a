import java.io.IOException;

/** Promises 14 and 15: a row told by hand, and what is judged of it. */
public final class RowEdgesTest {
    /** With no store no effort above 4 can be: 5 seconds by 0 and 1, 4 by 2 and 3, 3 by 4. */
    private static final String STORELESS = "piece 1 5 5;piece 1 5 5;piece 1 5 5;store 0";
    private static final String FIVE = "piece 1 5 5;piece 1 5 5;piece 1 5 5;store 5;bend 0 1;bend 1 1;bend 2 1";

    private RowEdgesTest() {
    }

    public static void main(String[] args) throws IOException {
        Edges edges = new Edges("RowEdgesTest");
        edges.test("==== 2", "A ROW of EFFORTS told by hand (8 at most)", RowEdgesTest::terms2Row8AtMost);
        edges.test("Promise 14", "how many (-1: it is empty then, 0). BAD; FULL: 8.", RowEdgesTest::promise14EmptyBadFull);
        edges.test("==== 2", "for PIECES from 0 on (what is beyond the PIECES does not count)", RowEdgesTest::terms2BeyondThePieces);
        edges.test("==== 2", "JUDGED: the first PIECE on which the EFFORT can't be (-5: none).", RowEdgesTest::terms2Judged);
        edges.test("==== 2", "EMPTY: the first PIECE (ahead of that) behind which the STORE is 0 (-5: none).", RowEdgesTest::terms2Empty);
        edges.test("==== 2", "LOST: the PIECE (ahead of that) on which most was lost", RowEdgesTest::terms2LostAheadOfThat);
        edges.test("==== 2",
            "its SECONDS, and those of the SOONEST from the next one on with the STORE behind it, less those of the SOONEST",
            RowEdgesTest::terms2LostFromTheNextOneOn);
        edges.test("==== 2", "of several the first (-5: nothing was lost); how much.", RowEdgesTest::terms2LostOfSeveralTheFirst);
        edges.test("Promise 15", "what 0 JUDGED, 1 EMPTY, 2 LOST, 3 how much (0). NONE.", RowEdgesTest::promise15None);
        edges.end();
    }

    private static HillRider told(String road, int... efforts) {
        HillRider x = road.isEmpty() ? new HillRider() : Due.on(road);
        for (int effort : efforts) {
            x.row(effort);
        }
        return x;
    }

    private static void terms2Row8AtMost(Due due) {
        HillRider x = new HillRider();
        for (int i = 1; i <= 8; i++) {
            due.be("row", x.row(i), i);
            due.be("count(3)", x.count(3), i);
        }
        due.be("a ninth", x.row(0), -4);
        due.be("count(3)", x.count(3), 8);
        due.refuse(Made::full, -4, y -> y.row(0), y -> y.row(9));
    }

    private static void promise14EmptyBadFull(Due due) {
        due.be("0", Made.busy().row(0), 4);
        due.be("9", Made.busy().row(9), 4);
        due.refuse(Made::busy, -2, x -> x.row(-2), x -> x.row(10), x -> x.row(Integer.MIN_VALUE), x -> x.row(Integer.MAX_VALUE));
        // BAD ahead of FULL
        due.refuse(Made::full, -2, x -> x.row(-2), x -> x.row(10));
        due.refuse(Made::full, -4, x -> x.row(0));
        HillRider full = Made.full();
        due.be("empty then", full.row(-1), 0);
        due.be("count(3)", full.count(3), 0);
        due.be("none is left that can't be", full.judged(0), -5);
        due.be("the first again", full.row(9), 1);
        due.be("it can't be", full.judged(0), 0);
        HillRider none = new HillRider();
        due.be("none, emptied", none.row(-1), 0);
        // what a row had before it was empty counts no more
        HillRider again = told(STORELESS, 9, 9, 0);
        again.row(-1);
        judged(due, again, -5, -5, -5, 0);
        again.row(4);
        judged(due, again, -5, 0, -5, 0);
    }

    private static void judged(Due due, HillRider x, int... wants) {
        for (int what = 0; what < 4; what++) {
            due.be("judged(" + what + ")", x.judged(what), wants[what]);
        }
    }

    private static void terms2BeyondThePieces(Due due) {
        judged(due, told("piece 1 5 5;store 0", 4, 9, 0), -5, 0, -5, 0);
        judged(due, told("piece 1 5 5;store 5", 4, 9, 9), -5, -5, 0, 1);
        judged(due, told("piece 1 5 5;piece 1 5 5;store 5;bend 0 1;bend 1 1", 4, 9, 9), -5, 1, -5, 0);
        judged(due, told("", 9, 9, 9), -5, -5, -5, 0);
        // the last of eight counts, and so does one of a row that is shorter than the road
        int[] seven = {4, 4, 4, 4, 4, 4, 4};
        HillRider eight = told(Made.pieces(8, "piece 1 5 5") + ";store 0", seven);
        eight.row(5);
        judged(due, eight, 7, 0, -5, 0);
        HillRider lost = told(Made.pieces(8, "piece 1 5 5") + ";store 0", seven);
        lost.row(0);
        judged(due, lost, -5, 0, 7, 2);
        judged(due, told(Made.pieces(8, "piece 1 5 5") + ";store 0", 5), 0, -5, -5, 0);
    }

    private static void terms2Judged(Due due) {
        judged(due, told(FIVE, 9, 4, 4), -5, 0, -5, 0);
        judged(due, told(FIVE, 5, 8, 4), -5, 1, -5, 0);
        judged(due, told(FIVE, 5, 9, 4), 1, -5, -5, 0);
        judged(due, told(FIVE, 4, 4, 9), -5, 2, -5, 0);
        judged(due, told(FIVE, 4, 5, 9), 2, -5, -5, 0);
        judged(due, told(FIVE, 9, 5, 5), 1, 0, -5, 0);
        judged(due, told("piece 2 5 5;store 9", 9), 0, -5, -5, 0);
        judged(due, told("piece 2 5 5;store 10", 9), -5, 0, -5, 0);
        judged(due, told(FIVE), -5, -5, -5, 0);
        judged(due, told(STORELESS), -5, -5, -5, 0);
    }

    private static void terms2Empty(Due due) {
        // of several the first, and again behind what came back
        judged(due, told(FIVE, 9, 4, 4), -5, 0, -5, 0);
        judged(due, told(FIVE, 9, 0, 6), -5, 0, -5, 0);
        judged(due, told(FIVE, 8, 4, 5), -5, 2, -5, 0);
        // behind the first on which it can't be nothing counts: 4 of 5 are left, and 8 would take them
        judged(due, told(FIVE, 5, 9, 8), 1, -5, -5, 0);
        // nor does that one, which would need one more
        judged(due, told("piece 1 5 5;store 4", 9), 0, -5, -5, 0);
        judged(due, told("piece 1 5 5;piece 1 5 5;store 0", 4, 5), 1, 0, -5, 0);
        judged(due, told("piece 1 5 5;store 1", 4), -5, -5, -5, 0);
        judged(due, told("piece 1 5 5;store 1", 5), -5, 0, -5, 0);
        // it is none behind which less than nothing would be left
        judged(due, told("piece 1 5 5;store 1", 6), 0, -5, -5, 0);
    }

    private static void terms2LostAheadOfThat(Due due) {
        judged(due, told(STORELESS, 2, 5, 0), 1, 0, 0, 1);
        judged(due, told(STORELESS, 4, 5, 0), 1, 0, -5, 0);
        judged(due, told(STORELESS, 5, 0, 0), 0, -5, -5, 0);
        judged(due, told(STORELESS, 2, 0, 5), 2, 0, 1, 2);
    }

    private static void terms2LostFromTheNextOneOn(Due due) {
        // 9 on the flat saves one second and costs nine uphill
        judged(due, told("piece 1 5 5;piece 1 9 9;store 5", 9, 4), -5, 0, 0, 2 + 13 - 7);
        judged(due, told("piece 1 5 5;piece 1 9 9;store 5", 4, 9), -5, 1, -5, 0);
        judged(due, told("piece 1 5 5;piece 1 9 9;store 5", 4, 8), -5, -5, 1, 5 - 4);
        judged(due, told("piece 1 5 5;piece 1 9 9;store 5", 0, 9), -5, 1, 0, 5 - 3);
        // the last one has none behind it
        judged(due, told("piece 1 9 9;store 5", 4), -5, -5, 0, 13 - 4);
    }

    private static void terms2LostOfSeveralTheFirst(Due due) {
        judged(due, told(STORELESS, 4, 4, 4), -5, 0, -5, 0);
        judged(due, told(STORELESS, 0, 0, 0), -5, 0, 0, 2);
        judged(due, told(STORELESS, 2, 0, 1), -5, 0, 1, 2);
        judged(due, told(STORELESS, 4, 3, 2), -5, 0, 1, 1);
        judged(due, told(STORELESS, 4, 4, 0), -5, 0, 2, 2);
        judged(due, told(STORELESS, 0, 4, 4), -5, 0, 0, 2);
    }

    private static void promise15None(Due due) {
        due.refuse(Made::busy, -1, x -> x.judged(-1), x -> x.judged(4), x -> x.judged(Integer.MIN_VALUE),
            x -> x.judged(Integer.MAX_VALUE));
        due.refuse(Made::roadless, -1, x -> x.judged(-1), x -> x.judged(4));
        judged(due, new HillRider(), -5, -5, -5, 0);
        judged(due, Due.on("piece 1 5 5"), -5, -5, -5, 0);
        judged(due, Made.roadless(), -5, -5, -5, 0);
    }
}
