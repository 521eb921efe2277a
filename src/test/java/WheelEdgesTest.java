import java.io.IOException;

/** Promises 20 and 21: a wheel to follow, and two laps. */
public final class WheelEdgesTest {
    private WheelEdgesTest() {
    }

    public static void main(String[] args) throws IOException {
        Edges edges = new Edges("WheelEdgesTest");
        edges.test("==== 3", "A WHEEL for k PIECES in a row (1 .. 8)", WheelEdgesTest::terms3WheelFor1To8);
        edges.test("==== 3", "on these STORE behind is as if the EFFORT were 2 less (0 at least)", WheelEdgesTest::terms3TwoLess0AtLeast);
        edges.test("==== 3", "all else as it is; a WAY takes what it would with the STORE ahead and no wheel",
            WheelEdgesTest::terms3AllElseAsItIs);
        edges.test("==== 3", "the first of these PIECES with which the SECONDS of its RIDE are fewest (of several the least)",
            WheelEdgesTest::terms3FollowedOfSeveralTheLeast);
        edges.test("==== 3", "WORTH: how many fewer than without (may be below 0).", WheelEdgesTest::terms3WorthMayBeBelow0);
        edges.test("Promise 20", "-5: there are fewer PIECES.", WheelEdgesTest::promise20FewerPieces);
        edges.test("Promise 20", "NONE; BAD; STATE.", WheelEdgesTest::promise20NoneBadState);
        edges.test("==== 3", "the second time with the STORE as it is at the end of the first", WheelEdgesTest::terms3SecondLap);
        edges.test("==== 3", "SECONDS of the second lap less those of the first.", WheelEdgesTest::terms3SecondLessFirst);
        edges.test("==== 3", "(all else, PIECES' numbers, too, as the first time)", WheelEdgesTest::terms3NumbersAsTheFirstTime);
        edges.test("Promise 21", "-10001: NONE; -10002: STATE.", WheelEdgesTest::promise21NoneState);
        edges.end();
    }

    private static HillRider with(String road, int kind, int v) {
        HillRider x = Due.on(road);
        x.way(kind, v);
        return x;
    }

    private static void wheel(Due due, HillRider x, int k, int followed, int worth) {
        due.be("FOLLOWED for " + k, x.wheel(0, k, 0), followed);
        due.be("WORTH for " + k, x.wheel(0, k, 1), worth);
    }

    private static void terms3WheelFor1To8(Due due) {
        // by 9 in 4 seconds for 5 of 20, with a wheel for 3; by 6 in 7 for 2 or none; by 4 in 13
        HillRider x = with(Made.pieces(8, "piece 1 9 9"), 1, 9);
        due.be("without", x.ride(0, 0), 4 * 4 + 4 * 13);
        wheel(due, x, 1, 0, 68 - (4 * 4 + 7 + 3 * 13));
        wheel(due, x, 7, 0, 68 - (6 * 4 + 2 * 7));
        wheel(due, x, 8, 0, 68 - (6 * 4 + 2 * 7));
        due.refuse(Made::busy, -2, y -> y.wheel(0, 0, 0), y -> y.wheel(0, 9, 0), y -> y.wheel(0, -1, 1), y -> y.wheel(0, 9, 1),
            y -> y.wheel(0, Integer.MIN_VALUE, 0), y -> y.wheel(0, Integer.MAX_VALUE, 0));
    }

    private static void terms3TwoLess0AtLeast(Due due) {
        // 7 of 9 are left behind the first; what an effort leaves behind the second is seen on the third
        int[] left = {8, 8, 8, 7, 6, 5};
        for (int effort = 0; effort < left.length; effort++) {
            for (int store = left[effort] - 1; store <= left[effort] + 1; store++) {
                HillRider x = with("piece 1 5 5;piece 1 5 5;piece 1 5 5;bar 1;back 10;store 9;ease 15 k=2&r=" + store, 5, 0);
                x.line(0, 0, 5);
                x.line(0, 1, effort);
                x.line(0, 2, 0);
                int slow = store == left[effort] ? 5 - 20 : 0;
                int slowWithout = store == 6 - effort ? 20 - 5 : 0;
                due.be("by " + effort + " to " + store, x.wheel(0, 3, 1), slow + slowWithout);
            }
        }
    }

    private static void terms3AllElseAsItIs(Due due) {
        // 9 would do with a wheel, but not without: 8 is taken
        wheel(due, with("piece 1 9 9;store 4", 1, 9), 1, 0, 0);
        wheel(due, with("piece 1 9 9;piece 1 9 9;store 4", 1, 9), 2, 0, 5 + 13 - (5 + 7));
        // its SECONDS are those of the EFFORT that is taken
        wheel(due, with("piece 9 9 9", 1, 4), 1, 0, 0);
        wheel(due, with("piece 9 9 9;ease 9 e<3", 1, 4), 1, 0, 0);
        // BEST takes 6 and 7 in 7 and 5; with a wheel it takes 6 still, and 9 then
        wheel(due, with("piece 1 9 9;piece 1 9 9;store 5", 3, 0), 1, 0, 7 + 5 - (7 + 4));
        due.be("asked first", with("piece 1 9 9;piece 1 9 9;store 5", 3, 0).wheel(0, 1, 1), 1);
        // off the wheel all is as without: by 4 nothing comes back
        wheel(due, with("piece 1 9 9;piece 1 9 9;piece 1 9 9;store 5", 1, 9), 1, 0, 4 + 13 + 13 - (4 + 7 + 13));
    }

    private static void terms3FollowedOfSeveralTheLeast(Due due) {
        wheel(due, with("piece 1 5 5;piece 1 5 5;piece 1 5 5", 0, 0), 1, 0, 0);
        wheel(due, with("piece 1 5 5;piece 1 5 5;piece 1 5 5", 0, 0), 2, 0, 0);
        // on the second alone it saves four
        wheel(due, with("piece 1 5 5;piece 1 5 5;piece 1 9 9;store 5", 1, 9), 1, 1, 4);
        // a fuller store slows: on the first it does harm, on the others none
        wheel(due, with("piece 1 5 5;piece 1 5 5;piece 1 5 5;store 18;ease 15 r>13", 1, 9), 1, 1, 0);
        // the last there is
        wheel(due, with("piece 1 5 5;piece 1 5 5;store 18;ease 15 r>13", 1, 9), 1, 1, 0);
    }

    private static void terms3WorthMayBeBelow0(Due due) {
        wheel(due, with("piece 1 5 5;piece 1 5 5;store 18;ease 15 r>13", 1, 9), 2, 0, 5 - 6);
        wheel(due, with("piece 1 5 5;piece 1 5 5;store 18;ease 99 r=15", 1, 9), 2, 0, 4 - 102);
    }

    private static void promise20FewerPieces(Due due) {
        HillRider x = Made.busy();
        for (int what = 0; what <= 1; what++) {
            due.be("3 of 3", x.wheel(0, 3, what), 0);
            due.be("4 of 3", x.wheel(0, 4, what), -5);
            due.be("8 of 3", x.wheel(0, 8, what), -5);
            due.be("7 of 7", with(Made.pieces(7, "piece 1 5 5"), 0, 0).wheel(0, 7, what), 0);
            due.be("8 of 7", with(Made.pieces(7, "piece 1 5 5"), 0, 0).wheel(0, 8, what), -5);
            due.be("8 of 8", with(Made.pieces(8, "piece 1 5 5"), 0, 0).wheel(0, 8, what), 0);
            due.be("1 of 1", with("piece 1 5 5", 0, 0).wheel(0, 1, what), 0);
            due.be("2 of 1", with("piece 1 5 5", 0, 0).wheel(0, 2, what), -5);
        }
    }

    private static void promise20NoneBadState(Due due) {
        due.refuse(Made::busy, -1, x -> x.wheel(-1, 1, 0), x -> x.wheel(7, 1, 0), x -> x.wheel(0, 1, -1), x -> x.wheel(0, 1, 2),
            x -> x.wheel(Integer.MIN_VALUE, 1, 0), x -> x.wheel(Integer.MAX_VALUE, 1, 0), x -> x.wheel(0, 1, Integer.MIN_VALUE),
            x -> x.wheel(0, 1, Integer.MAX_VALUE));
        due.refuse(Made::roadless, -3, x -> x.wheel(0, 1, 0), x -> x.wheel(6, 8, 1));
        // NONE ahead of BAD ahead of STATE; none of them is -5
        due.refuse(Made::busy, -1, x -> x.wheel(7, 0, 0), x -> x.wheel(0, 9, 2), x -> x.wheel(7, 4, 0), x -> x.wheel(0, 4, 2));
        due.refuse(Made::roadless, -1, x -> x.wheel(7, 1, 0), x -> x.wheel(0, 1, 2), x -> x.wheel(-1, 9, 0));
        due.refuse(Made::roadless, -2, x -> x.wheel(0, 0, 0), x -> x.wheel(6, 9, 1));
        due.be("the eighth way", Made.full().wheel(7, 1, 1), 0);
        due.refuse(Made::full, -1, x -> x.wheel(8, 1, 1));
    }

    private static void terms3SecondLessFirst(Due due) {
        // 2 and 13, then with no store 3 and 13
        due.be("slower", with("piece 1 5 5;piece 1 9 9;store 5", 1, 9).laps(0), 3 - 2);
        // a full store slows
        due.be("faster", with("piece 1 5 5;ease 15 r=20", 1, 9).laps(0), 2 - 3);
        due.be("nothing is spent", with("piece 1 5 5;ease 15 r=20", 0, 0).laps(0), 0);
    }

    private static void terms3SecondLap(Due due) {
        // 10 of 20 are left and do for 9 and 9, but not 8 of 18
        due.be("as fast", with("piece 1 5 5;piece 1 5 5;store 20", 1, 9).laps(0), 0);
        due.be("one less fast", with("piece 1 5 5;piece 1 5 5;store 18", 1, 9).laps(0), 2 + 3 - 4);
        due.be("of no store", with("piece 1 5 5;store 0", 1, 9).laps(0), 0);
        due.be("by 6 with 2 of 7", with("piece 1 9 9;store 7", 1, 9).laps(0), 7 - 4);
        // 4 and 9 in 3 and 4, then with no store 0 and 6 in 5 and 7
        due.be("of BEST", with("piece 1 5 5;piece 1 9 9;store 5", 3, 0).laps(0), 5 + 7 - (3 + 4));
        due.be("of eight pieces", with(Made.pieces(8, "piece 1 9 9"), 1, 9).laps(0), 8 * 13 - 68);
    }

    private static void terms3NumbersAsTheFirstTime(Due due) {
        due.be("k", with("piece 1 5 5;ease 15 k=1", 0, 0).laps(0), 0);
        due.be("v", with("piece 1 5 5", 6, 1).laps(0), 0);
        HillRider told = with("piece 1 5 5", 5, 0);
        told.line(0, 0, 9);
        told.line(0, 1, 0);
        due.be("what is told", told.laps(0), 0);
        due.be("the bend", with("piece 1 5 5;bend 1 1", 1, 9).laps(0), 0);
        due.be("what is left", with("piece 1 5 5;piece 1 5 5;store 20", 4, 5).laps(0), 0);
    }

    private static void promise21NoneState(Due due) {
        due.refuse(Made::busy, -10001, x -> x.laps(-1), x -> x.laps(7), x -> x.laps(8), x -> x.laps(Integer.MIN_VALUE),
            x -> x.laps(Integer.MAX_VALUE));
        due.refuse(Made::roadless, -10002, x -> x.laps(0), x -> x.laps(6));
        // NONE ahead of STATE
        due.refuse(Made::roadless, -10001, x -> x.laps(7), x -> x.laps(-1));
        due.be("the eighth way", Made.full().laps(7), 0);
        due.refuse(Made::full, -10001, x -> x.laps(8));
    }
}
