import java.io.IOException;

/** Promises 7, 8 and 24: how many ways there may be, of which kinds, and what is told to them. */
public final class WayEdgesTest {
    private WayEdgesTest() {
    }

    public static void main(String[] args) throws IOException {
        Edges edges = new Edges("WayEdgesTest");
        edges.test("==== 2", "WAYS are numbered from 0 on, 8 at most", WayEdgesTest::terms2Ways8AtMost);
        edges.test("==== 2", "0 WAY; 1 EVEN, 2 SLOPED, 6 FOLLOW under WAY; 3 BEST, 4 FEEL under EVEN; 5 TOLD under SLOPED",
            WayEdgesTest::terms2Kinds);
        edges.test("==== 2", "and a number v (0 .. 9)", WayEdgesTest::terms2V0To9);
        edges.test("Promise 7", "NONE: kind; BAD: v; FULL.", WayEdgesTest::promise7NoneBadFull);
        edges.test("Promise 8", "(-1: none)", WayEdgesTest::promise8EffortOrNone);
        edges.test("Promise 8", "(0 .. 7, there or not)", WayEdgesTest::promise8Piece0To7ThereOrNot);
        edges.test("Promise 8", "what it told (-5: none)", WayEdgesTest::promise8WhatItTold);
        edges.test("Promise 8", "NONE: way, piece; BAD; STATE: it has none.", WayEdgesTest::promise8NoneBadState);
        edges.test("Promise 24", "A WAY taken for a KIND k (0 .. 6), or one under that: its v.", WayEdgesTest::promise24KindOrUnder);
        edges.test("Promise 24", "NONE: way, k; -6: it is of another KIND.", WayEdgesTest::promise24NoneOrAnother);
        edges.end();
    }

    private static void terms2Ways8AtMost(Due due) {
        HillRider x = new HillRider();
        for (int i = 0; i < 8; i++) {
            due.be("way", x.way(0, 9 - i), i);
            due.be("count(1)", x.count(1), i + 1);
        }
        due.be("a ninth", x.way(0, 0), -4);
        due.be("count(1)", x.count(1), 8);
        for (int i = 0; i < 8; i++) {
            due.be("its v", x.as(i, 0), 9 - i);
        }
        due.refuse(Made::full, -4, y -> y.way(0, 0), y -> y.way(5, 9), y -> y.way(6, 0));
    }

    private static void terms2Kinds(Due due) {
        String[] under = {"0", "01", "02", "013", "014", "025", "06"};
        for (int kind = 0; kind < 7; kind++) {
            HillRider x = new HillRider();
            due.be("way of " + kind, x.way(kind, 8), 0);
            for (int k = 0; k < 7; k++) {
                due.be(kind + " taken for " + k, x.as(0, k), under[kind].indexOf('0' + k) < 0 ? -6 : 8);
            }
        }
    }

    private static void terms2V0To9(Due due) {
        for (int kind = 0; kind < 7; kind++) {
            for (int v = 0; v <= 9; v++) {
                HillRider x = new HillRider();
                due.be("way(" + kind + ", " + v + ")", x.way(kind, v), 0);
                due.be("its v", x.as(0, kind), v);
            }
            int of = kind;
            due.refuse(Made::busy, -2, x -> x.way(of, -1), x -> x.way(of, 10));
        }
        due.refuse(Made::busy, -2, x -> x.way(0, Integer.MIN_VALUE), x -> x.way(0, Integer.MAX_VALUE));
    }

    private static void promise7NoneBadFull(Due due) {
        due.be("kind 0", Made.busy().way(0, 9), 7);
        due.be("kind 6", Made.busy().way(6, 0), 7);
        due.refuse(Made::busy, -1, x -> x.way(-1, 0), x -> x.way(7, 0), x -> x.way(Integer.MIN_VALUE, 0),
            x -> x.way(Integer.MAX_VALUE, 0));
        // NONE ahead of BAD ahead of FULL
        due.refuse(Made::busy, -1, x -> x.way(-1, -1), x -> x.way(7, 10));
        due.refuse(Made::full, -1, x -> x.way(-1, -1), x -> x.way(7, 10), x -> x.way(7, 0));
        due.refuse(Made::full, -2, x -> x.way(0, -1), x -> x.way(6, 10));
        due.refuse(Made::full, -4, x -> x.way(0, 0), x -> x.way(6, 9));
    }

    private static void promise8EffortOrNone(Due due) {
        HillRider x = Made.roadless();
        due.be("0", x.line(5, 0, 0), -5);
        due.be("9 behind 0", x.line(5, 0, 9), 0);
        due.be("none behind 9", x.line(5, 0, -1), 9);
        due.be("none behind none", x.line(5, 0, -1), -5);
        due.refuse(Made::busy, -2, y -> y.line(5, 0, -2), y -> y.line(5, 0, 10), y -> y.line(5, 0, -5),
            y -> y.line(5, 0, Integer.MIN_VALUE), y -> y.line(5, 0, Integer.MAX_VALUE));
    }

    private static void promise8Piece0To7ThereOrNot(Due due) {
        HillRider none = Made.roadless();
        HillRider busy = Made.busy();
        int[] told = {7, -5, 0, -5, -5, -5, -5, 9};
        for (int piece = 0; piece < 8; piece++) {
            due.be("without a road, " + piece, none.line(5, piece, piece + 1), -5);
            due.be("on a road of three, " + piece, busy.line(5, piece, 1), told[piece]);
        }
        for (int piece = 0; piece < 8; piece++) {
            due.be("it was told for " + piece + " alone", none.line(5, piece, 0), piece + 1);
        }
        due.refuse(Made::busy, -1, x -> x.line(5, -1, 0), x -> x.line(5, 8, 0), x -> x.line(5, Integer.MIN_VALUE, 0),
            x -> x.line(5, Integer.MAX_VALUE, 0));
        // what was told ahead of the road counts when it is there
        HillRider later = Made.roadless();
        later.line(5, 7, 2);
        Due.road(later, Made.pieces(8, "piece 1 5 5"));
        due.be("takes on the eighth", later.takes(5, 7, 20), 2);
        due.be("takes on the seventh", later.takes(5, 6, 20), 4);
    }

    private static void promise8WhatItTold(Due due) {
        HillRider x = new HillRider();
        x.way(5, 0);
        x.way(5, 0);
        due.be("none", x.line(0, 3, 0), -5);
        due.be("0 is not none", x.line(0, 3, 4), 0);
        due.be("the other has its own", x.line(1, 3, 5), -5);
        due.be("4", x.line(0, 3, 4), 4);
        due.be("5", x.line(1, 3, 5), 5);
    }

    private static void promise8NoneBadState(Due due) {
        due.refuse(Made::busy, -1, x -> x.line(-1, 0, 0), x -> x.line(7, 0, 0), x -> x.line(8, 0, 0),
            x -> x.line(Integer.MIN_VALUE, 0, 0), x -> x.line(Integer.MAX_VALUE, 0, 0));
        due.be("the eighth way", Made.full().line(5, 0, 0), -5);
        due.refuse(Made::full, -1, x -> x.line(8, 0, 0));
        // every kind but TOLD has no ROW
        for (int way : new int[] {0, 1, 2, 3, 4, 6}) {
            due.refuse(Made::busy, -3, x -> x.line(way, 0, 0), x -> x.line(way, 7, 9), x -> x.line(way, 0, -1));
            due.refuse(Made::busy, -2, x -> x.line(way, 0, 10), x -> x.line(way, 7, -2));
            due.refuse(Made::busy, -1, x -> x.line(way, 8, 10), x -> x.line(way, -1, 0));
        }
        due.refuse(Made::busy, -1, x -> x.line(5, 8, 10), x -> x.line(7, 0, 10), x -> x.line(-1, 0, -2));
    }

    private static void promise24KindOrUnder(Due due) {
        HillRider x = Made.roadless();
        due.be("k 0", x.as(6, 0), 3);
        due.be("k 6", x.as(6, 6), 3);
        for (int v = 0; v <= 9; v++) {
            HillRider one = new HillRider();
            one.way(5, v);
            due.be("TOLD as WAY", one.as(0, 0), v);
            due.be("TOLD as SLOPED", one.as(0, 2), v);
            due.be("TOLD as TOLD", one.as(0, 5), v);
        }
    }

    private static void promise24NoneOrAnother(Due due) {
        due.refuse(Made::busy, -1, x -> x.as(-1, 0), x -> x.as(7, 0), x -> x.as(0, -1), x -> x.as(0, 7),
            x -> x.as(Integer.MIN_VALUE, 0), x -> x.as(Integer.MAX_VALUE, 0), x -> x.as(0, Integer.MIN_VALUE),
            x -> x.as(0, Integer.MAX_VALUE), x -> x.as(7, 7));
        due.be("the eighth way", Made.full().as(7, 0), 7);
        due.refuse(Made::full, -1, x -> x.as(8, 0));
        // what is above is of another kind than what is under it, and so is what stands beside it
        due.refuse(Made::busy, -6, x -> x.as(0, 1), x -> x.as(0, 6), x -> x.as(1, 3), x -> x.as(2, 5), x -> x.as(3, 4),
            x -> x.as(4, 3), x -> x.as(5, 1), x -> x.as(6, 2));
    }
}
