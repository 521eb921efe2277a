import java.io.IOException;

/** Promises 16 and 17: heat by chances. */
public final class HeatEdgesTest {
    private HeatEdgesTest() {
    }

    public static void main(String[] args) throws IOException {
        Edges edges = new Edges("HeatEdgesTest");
        edges.test("==== 3", "each PIECE is hot with odds of heat of 10", HeatEdgesTest::terms3OddsOfHeatOf10);
        edges.test("==== 3", "an EFFORT above bar costs twice as much there then", HeatEdgesTest::terms3AboveBarTwice);
        edges.test("==== 3", "and else nothing comes back", HeatEdgesTest::terms3NothingComesBack);
        edges.test("==== 3", "if the STORE would be below 0, it is 0", HeatEdgesTest::terms3StoreIs0);
        edges.test("==== 3", "if the STORE would be below 0, it is 0, and the PIECE takes twice the SECONDS",
            HeatEdgesTest::terms3TwiceTheSeconds);
        edges.test("==== 3", "A WAY takes what it would without. MEAN", HeatEdgesTest::terms3TakesWhatItWouldWithout);
        edges.test("==== 3", "a fraction in lowest terms", HeatEdgesTest::terms3LowestTerms);
        edges.test("==== 3", "SURE: how likely they are no more than t.", HeatEdgesTest::terms3NoMoreThanT);
        edges.test("Promise 16", "part 0 above, 1 below the line. NO: also without PIECES.", HeatEdgesTest::promise16No);
        edges.test("Promise 17", "SURE by t (0 .. 9999). NO.", HeatEdgesTest::promise17T0To9999);
        edges.test("Promise 17", "SURE by t (0 .. 9999). NO.", HeatEdgesTest::promise17No);
        edges.end();
    }

    private static HillRider even(String road, int v) {
        HillRider x = Due.on(road);
        x.way(1, v);
        return x;
    }

    /** A way that is told an effort for each piece. */
    private static HillRider told(String road, int... efforts) {
        HillRider x = Due.on(road);
        x.way(5, 0);
        for (int piece = 0; piece < efforts.length; piece++) {
            x.line(0, piece, efforts[piece]);
        }
        return x;
    }

    private static void mean(Due due, HillRider x, long above, long below) {
        due.be("MEAN above the line", x.mean(0, 0), above);
        due.be("MEAN below the line", x.mean(0, 1), below);
    }

    private static void sure(Due due, HillRider x, int t, long above, long below) {
        due.be("SURE by " + t + ", above the line", x.sure(0, t, 0), above);
        due.be("SURE by " + t + ", below the line", x.sure(0, t, 1), below);
    }

    private static void terms3OddsOfHeatOf10(Due due) {
        // 3 seconds, or 6 where it is hot
        long[] above = {3, 33, 18, 39, 21, 9, 24, 51, 27, 57, 6};
        long[] below = {1, 10, 5, 10, 5, 2, 5, 10, 5, 10, 1};
        for (int heat = 0; heat <= 10; heat++) {
            mean(due, even("piece 1 5 5;store 1;heat " + heat, 5), above[heat], below[heat]);
        }
        mean(due, even("piece 1 5 5;store 1", 5), 3, 1);
        mean(due, even("piece 1 5 5;store 1;heat 11", 5), 6, 1);
        // each of eight for itself: only where all are hot one is wanting
        HillRider eight = even(Made.pieces(8, "piece 1 5 5") + ";store 15;heat 1", 5);
        mean(due, eight, 2400000003L, 100000000);
        sure(due, eight, 24, 99999999, 100000000);
    }

    private static void terms3AboveBarTwice(Due due) {
        // at the bar nothing is asked for; 1 above it 2 are
        mean(due, even("piece 1 5 5;store 0;heat 10", 4), 3, 1);
        mean(due, even("piece 1 5 5;store 1;heat 10", 4), 3, 1);
        mean(due, even("piece 1 5 5;store 1;heat 10", 5), 6, 1);
        mean(due, even("piece 1 5 5;store 2;heat 10", 5), 3, 1);
        // 5 or 4 are left of 6: uphill by 9 in 4 (hot 8), or by 8 in 5 (hot 10)
        HillRider x = told("piece 1 5 5;piece 1 9 9;heat 5;store 6", 5, 9);
        mean(due, x, 7 + 11 + 8 + 13, 4);
    }

    private static void terms3NothingComesBack(Due due) {
        // 2 of 12 are left, and stay 2 by 0: uphill by 6 in 7, which are twice as many
        mean(due, told("piece 1 5 5;piece 1 5 5;piece 1 9 9;heat 10;store 12", 9, 0, 9), 2 + 5 + 14, 1);
        // without heat 7 are left, and 9 then: uphill by 9
        mean(due, told("piece 1 5 5;piece 1 5 5;piece 1 9 9;heat 0;store 12", 9, 0, 9), 2 + 5 + 4, 1);
    }

    private static void terms3StoreIs0(Due due) {
        // 9 less 10 are 0: behind 0 on the second piece 2 (cold) or 0 (hot)
        HillRider x = told("piece 1 5 5;piece 1 5 5;piece 1 9 9;heat 5;store 9", 9, 0, 9);
        mean(due, x, 11 + 15 + 12 + 17 + 16 + 23 + 22 + 22 >> 1, 4);
        sure(due, x, 15, 3, 8);
        sure(due, x, 16, 1, 2);
        sure(due, x, 22, 7, 8);
        sure(due, x, 23, 1, 1);
    }

    private static void terms3TwiceTheSeconds(Due due) {
        // 20 asked for: 4 seconds, or 8
        mean(due, even("piece 2 5 5;heat 10;store 20", 9), 4, 1);
        mean(due, even("piece 2 5 5;heat 10;store 19", 9), 8, 1);
        mean(due, even("piece 2 5 5;heat 10;store 21", 9), 4, 1);
        mean(due, even("piece 2 5 5;heat 10;store 10", 9), 8, 1);
        // that piece alone: behind it there is no store, and by 4 it takes 3
        mean(due, even("piece 1 5 5;piece 1 5 5;heat 10;store 9", 9), 4 + 3, 1);
    }

    private static void terms3TakesWhatItWouldWithout(Due due) {
        // 5 are there for the 5 that 9 costs, hot 10 or not
        mean(due, even("piece 1 9 9;heat 10;store 5", 9), 2 * 4, 1);
        mean(due, even("piece 1 9 9;heat 10;store 4", 9), 2 * 5, 1);
        mean(due, even("piece 1 9 9;heat 5;store 5", 9), 4 + 8 >> 1, 1);
        HillRider best = Due.on("piece 1 9 9;heat 10;store 5");
        best.way(3, 0);
        mean(due, best, 2 * 4, 1);
    }

    private static void terms3LowestTerms(Due due) {
        HillRider x = even("piece 1 5 5;store 1;heat 5", 5);
        mean(due, x, 9, 2);
        sure(due, x, 2, 0, 1);
        sure(due, x, 3, 1, 2);
        sure(due, x, 6, 1, 1);
        mean(due, even("piece 1 5 5;store 1;heat 4", 5), 21, 5);
        // a whole number has 1 below the line, of eight pieces, too
        mean(due, even(Made.pieces(8, "piece 9 9 9") + ";heat 3", 0), 7200, 1);
    }

    private static void terms3NoMoreThanT(Due due) {
        HillRider x = even("piece 1 5 5;store 1;heat 3", 5);
        sure(due, x, 2, 0, 1);
        sure(due, x, 3, 7, 10);
        sure(due, x, 4, 7, 10);
        sure(due, x, 5, 7, 10);
        sure(due, x, 6, 1, 1);
        sure(due, x, 7, 1, 1);
    }

    private static void promise16No(Due due) {
        due.be("the last way's", Made.busy().mean(6, 1) >= 1 ? 1 : 0, 1);
        due.be("the eighth way's", Made.full().mean(7, 0), 14);
        due.be("the eighth way's", Made.full().mean(7, 1), 1);
        due.refuse(Made::full, HillRider.NO, x -> x.mean(8, 0));
        due.refuse(Made::busy, HillRider.NO, x -> x.mean(-1, 0), x -> x.mean(7, 0), x -> x.mean(0, -1), x -> x.mean(0, 2),
            x -> x.mean(Integer.MIN_VALUE, 0), x -> x.mean(Integer.MAX_VALUE, 0), x -> x.mean(0, Integer.MIN_VALUE),
            x -> x.mean(0, Integer.MAX_VALUE));
        due.refuse(Made::roadless, HillRider.NO, x -> x.mean(0, 0), x -> x.mean(6, 1), x -> x.mean(7, 0), x -> x.mean(0, 2));
    }

    /** Four pieces of eight may take twice their 900 seconds; only then there are more than 9900. */
    private static HillRider longest() {
        return told(Made.pieces(8, "piece 9 9 9") + ";bar 2;heat 5;ease 7 e>2", 4, 0, 3, 0, 3, 0, 3, 0);
    }

    private static void promise17T0To9999(Due due) {
        HillRider x = longest();
        sure(due, x, 0, 0, 1);
        sure(due, x, 1, 0, 1);
        sure(due, x, 9998, 127, 128);
        sure(due, x, 9999, 127, 128);
        due.refuse(HeatEdgesTest::longest, HillRider.NO, y -> y.sure(0, -1, 0), y -> y.sure(0, 10000, 0), y -> y.sure(0, -1, 1),
            y -> y.sure(0, 10000, 1), y -> y.sure(0, Integer.MIN_VALUE, 0), y -> y.sure(0, Integer.MAX_VALUE, 0));
    }

    private static void promise17No(Due due) {
        due.be("the last way's", Made.busy().sure(6, 9999, 1), 1);
        due.be("the eighth way's", Made.full().sure(7, 14, 0), 1);
        due.be("the eighth way's", Made.full().sure(7, 13, 0), 0);
        due.refuse(Made::full, HillRider.NO, x -> x.sure(8, 0, 0));
        due.refuse(Made::busy, HillRider.NO, x -> x.sure(-1, 0, 0), x -> x.sure(7, 0, 0), x -> x.sure(0, 0, -1),
            x -> x.sure(0, 0, 2), x -> x.sure(Integer.MIN_VALUE, 0, 0), x -> x.sure(Integer.MAX_VALUE, 0, 0),
            x -> x.sure(0, 0, Integer.MIN_VALUE), x -> x.sure(0, 0, Integer.MAX_VALUE));
        due.refuse(Made::roadless, HillRider.NO, x -> x.sure(0, 0, 0), x -> x.sure(6, 9999, 1), x -> x.sure(7, 0, 0));
    }
}
