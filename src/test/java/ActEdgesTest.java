import java.io.IOException;

/** Promises 22 and 23: acts, and the trace of their bodies. */
public final class ActEdgesTest {
    private static final int LEAST = Integer.MIN_VALUE, MOST = Integer.MAX_VALUE;

    private ActEdgesTest() {
    }

    public static void main(String[] args) throws IOException {
        Edges edges = new Edges("ActEdgesTest");
        edges.test("==== 3", "ACTS of a WAY with x (ints, wrapping)", ActEdgesTest::terms3IntsWrapping);
        edges.test("==== 3", "if that has none, of the next KIND above that has one", ActEdgesTest::terms3TheNextKindAbove);
        edges.test("==== 3", "super.goes(..): so from the KIND above the body's on", ActEdgesTest::terms3SuperFromTheKindAbove);
        edges.test("==== 3", "the numbers of the bodies that ran in the latest act(), as they began", ActEdgesTest::terms3LatestAct);
        edges.test("==== 3", "the first 20 are kept.", ActEdgesTest::terms3AllOfTheLongestAreKept);
        edges.test("Promise 22", "0, and no TRACE then: no such WAY, act.", ActEdgesTest::promise22NoSuchWayOrAct);
        edges.test("Promise 23", "THE TRACE's i-th body. NONE.", ActEdgesTest::promise23None);
        edges.end();
    }

    /** Ways of one kind and v up to that of a number. */
    private static HillRider way(int kind, int number, int v) {
        HillRider x = new HillRider();
        for (int i = 0; i <= number; i++) {
            x.way(kind, v);
        }
        return x;
    }

    private static void terms3IntsWrapping(Due due) {
        due.be("the most and 0", way(0, 0, 0).act(0, 0, MOST), MOST);
        due.be("the most and 1", way(0, 1, 0).act(1, 0, MOST), LEAST);
        due.be("the most and 7", way(0, 7, 0).act(7, 0, MOST), LEAST + 6);
        due.be("the least less 0", way(0, 0, 0).act(0, 1, LEAST), LEAST);
        due.be("the least less 1", way(0, 0, 1).act(0, 1, LEAST), MOST);
        due.be("the least less 9", way(0, 0, 9).act(0, 1, LEAST), MOST - 8);
        due.be("half the most and a half, twice", way(0, 0, 0).act(0, 2, 1 << 30), LEAST);
        due.be("half the most, twice", way(0, 0, 0).act(0, 2, (1 << 30) - 1), MOST - 1);
        due.be("the least, twice", way(0, 0, 0).act(0, 2, LEAST), 0);
        due.be("three times a third of the most", way(1, 0, 0).act(0, 0, 715827882), MOST - 1);
        due.be("three times a little more", way(1, 0, 0).act(0, 0, 715827883), LEAST + 1);
        due.be("three times the least", way(1, 0, 0).act(0, 0, LEAST), LEAST);
        due.be("the least denied", way(2, 0, 0).act(0, 1, LEAST), LEAST);
        due.be("the most denied", way(2, 0, 0).act(0, 1, MOST), LEAST + 1);
        due.be("the least less 1 for BEST", way(3, 0, 0).act(0, 2, LEAST), MOST * 3 * 2 + 6);
        due.be("the least of FEEL", way(4, 7, 0).act(7, 0, LEAST), LEAST + 7 ^ 7);
        due.be("the most denied, and v", way(5, 0, 9).act(0, 1, LEAST + 8), LEAST + 1 + 9);
        due.be("the least of FOLLOW", way(6, 0, 0).act(0, 2, LEAST), 7);
        due.be("the most of FOLLOW", way(6, 0, 0).act(0, 2, MOST), -2 ^ 7);
    }

    private static void ran(Due due, HillRider x, int way, int act, int... bodies) {
        x.act(way, act, 1);
        due.be("bodies of act(" + way + ", " + act + ")", x.count(5), bodies.length);
        for (int i = 0; i < bodies.length; i++) {
            due.be("trace(" + i + ") of act(" + way + ", " + act + ")", x.trace(i), bodies[i]);
        }
        due.be("beyond it", x.trace(bodies.length), -1);
    }

    private static void terms3TheNextKindAbove(Due due) {
        HillRider x = Made.roadless();
        // FOLLOW has rests alone, SLOPED spends alone, EVEN goes alone
        ran(due, x, 6, 0, 1);
        ran(due, x, 6, 1, 2, 1);
        ran(due, x, 2, 0, 1);
        ran(due, x, 1, 2, 3, 2, 11, 1);
        // two above: WAY's
        ran(due, x, 5, 0, 1);
        ran(due, x, 3, 1, 2, 11, 1);
        ran(due, x, 4, 2, 3, 2, 51, 11, 1);
        // one above: EVEN's
        ran(due, x, 3, 0, 11, 1);
    }

    private static void terms3SuperFromTheKindAbove(Due due) {
        HillRider x = Made.roadless();
        ran(due, x, 4, 0, 51, 11, 1);
        ran(due, x, 5, 1, 61, 21, 2, 1);
        ran(due, x, 2, 1, 21, 2, 1);
        ran(due, x, 1, 0, 11, 1);
        // EVEN has no rests: that of WAY
        ran(due, x, 3, 2, 41, 3, 2, 11, 1, 11, 1);
        ran(due, x, 6, 2, 31, 3, 2, 1);
        ran(due, x, 5, 2, 3, 61, 21, 2, 1);
        due.be("the value of all that", x.act(3, 2, 1), (0 * 3 + 3 - 3) * 2 + 2 * 3 + 3);
    }

    private static void terms3LatestAct(Due due) {
        HillRider x = Made.roadless();
        ran(due, x, 3, 2, 41, 3, 2, 11, 1, 11, 1);
        ran(due, x, 0, 0, 1);
        ran(due, x, 5, 2, 3, 61, 21, 2, 1);
        // what is no act leaves it
        x.way(0, 0);
        x.row(1);
        Due.road(x, "piece 1 5 5");
        x.ride(3, 0);
        x.image();
        x.undo();
        due.be("still five", x.count(5), 5);
        due.be("still the first", x.trace(0), 3);
        due.be("still the last", x.trace(4), 1);
    }

    private static void terms3AllOfTheLongestAreKept(Due due) {
        // no act runs more than seven
        int longest = 0;
        for (int way = 0; way < 7; way++) {
            for (int act = 0; act < 3; act++) {
                HillRider x = Made.roadless();
                x.act(way, act, 1);
                longest = Math.max(longest, x.count(5));
                for (int i = 0; i < x.count(5); i++) {
                    due.be("is kept", x.trace(i) > 0 ? 1 : 0, 1);
                }
            }
        }
        due.be("the longest", longest, 7);
    }

    private static void promise22NoSuchWayOrAct(Due due) {
        int[][] wrongs = {{-1, 0}, {7, 0}, {8, 0}, {LEAST, 0}, {MOST, 0}, {0, -1}, {0, 3}, {0, LEAST}, {0, MOST}, {7, 3}, {-1, -1}};
        for (int[] wrong : wrongs) {
            HillRider x = Made.roadless();
            due.be("act(" + wrong[0] + ", " + wrong[1] + ", 5)", x.act(wrong[0], wrong[1], 5), 0);
            due.be("no bodies", x.count(5), 0);
            due.be("no first", x.trace(0), -1);
            due.be("no seventh", x.trace(6), -1);
            due.changeNothing(ActEdgesTest::traceless, "a wrong act", y -> y.act(wrong[0], wrong[1], 5));
        }
        due.be("act 0", Made.roadless().act(6, 0, 5), 11);
        due.be("act 2", Made.roadless().act(0, 2, 5), 4);
        due.be("the eighth way", Made.full().act(7, 0, 5), 12);
        due.be("no ninth", Made.full().act(8, 0, 5), 0);
    }

    private static HillRider traceless() {
        HillRider x = Made.busy();
        x.act(-1, 0, 0);
        return x;
    }

    private static void promise23None(Due due) {
        HillRider x = Made.busy();
        int[] bodies = {41, 3, 2, 11, 1, 11, 1};
        for (int i = 0; i < 7; i++) {
            due.be("trace(" + i + ")", x.trace(i), bodies[i]);
        }
        due.refuse(Made::busy, -1, y -> y.trace(-1), y -> y.trace(7), y -> y.trace(19), y -> y.trace(20), y -> y.trace(21),
            y -> y.trace(LEAST), y -> y.trace(MOST));
        due.refuse(HillRider::new, -1, y -> y.trace(0), y -> y.trace(-1));
    }
}
