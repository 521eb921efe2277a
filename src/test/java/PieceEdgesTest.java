import java.io.IOException;

/** Promises 4 to 6: what a road tells of its pieces and of itself, and what an effort does on a piece. */
public final class PieceEdgesTest {
    /** What is told of a road of one piece without other clauses. */
    private static final int[] WITHOUT = {1, 4, 20, 5, 0};

    private PieceEdgesTest() {
    }

    public static void main(String[] args) throws IOException {
        Edges edges = new Edges("PieceEdgesTest");
        edges.test("Promise 4", "Of a PIECE what 0 LENGTH, 1 SLOPE and 5, 2 WIND and 5, 3 BEND. NONE.", PieceEdgesTest::promise4None);
        edges.test("==== 1", "BEND of a PIECE: the n of the last bend with its k (99 without; 0 as 1)", PieceEdgesTest::terms1BendOfAPiece);
        edges.test("Promise 5", "Of the ROAD what 0 PIECES, 1 bar, 2 store, 3 back, 4 heat. NONE.", PieceEdgesTest::promise5None);
        edges.test("==== 1", "bar (4 without; 9 at most)", PieceEdgesTest::terms1Bar);
        edges.test("==== 1", "store (20 without; 60 at most)", PieceEdgesTest::terms1Store);
        edges.test("==== 1", "back (5 without)", PieceEdgesTest::terms1Back);
        edges.test("==== 1", "heat (0 without; 10 at most)", PieceEdgesTest::terms1Heat);
        edges.test("==== 1", "the last n (a greater one as the most)", PieceEdgesTest::terms1TheLastN);
        edges.test("==== 1", "EFFORT 0 .. 9.", PieceEdgesTest::terms1Effort0To9);
        edges.test("==== 1", "LENGTH l, SLOPE s less 5, WIND w less 5 (against, above 0)", PieceEdgesTest::terms1SlopeAndWindLess5);
        edges.test("==== 1", "less the n of all ease whose E holds", PieceEdgesTest::terms1AllEaseWhoseEHolds);
        edges.test("==== 1", "k the PIECE's number, e EFFORT, s its SLOPE and 5, w its WIND and 5, r the STORE ahead of it",
            PieceEdgesTest::terms1WhatATestLooksAt);
        edges.test("==== 1", "E: T, or T|E. T: F, or F&T. F: !F, (E), or a TEST", PieceEdgesTest::terms1WhenEHolds);
        edges.test("==== 1", "BEND at most, 1 at least.", PieceEdgesTest::terms1SpeedBendAtMost1AtLeast);
        edges.test("==== 1", "SECONDS: 100 times LENGTH by SPEED (rounded up).", PieceEdgesTest::terms1SecondsRoundedUp);
        edges.test("==== 1", "STORE (store at first; that at most) behind it", PieceEdgesTest::terms1StoreAtMost);
        edges.test("==== 1", "above bar LENGTH times (EFFORT less bar) less; else", PieceEdgesTest::terms1AboveBarElse);
        edges.test("==== 1", "LENGTH times (bar less EFFORT) times back by 10 (cut) more", PieceEdgesTest::terms1BackBy10Cut);
        edges.test("==== 1", "An EFFORT CAN be on a PIECE, if STORE behind it is not below 0.", PieceEdgesTest::terms1CanBe);
        edges.test("Promise 6", "2 the STORE behind it (-5: it can't be)", PieceEdgesTest::promise6ItCannotBe);
        edges.test("Promise 6", "what 0 SPEED, 1 SECONDS", PieceEdgesTest::promise6SpeedAllTheSame);
        edges.test("Promise 6", "NONE; BAD: effort, store.", PieceEdgesTest::promise6NoneBad);
        edges.end();
    }

    private static void promise4None(Due due) {
        HillRider x = Made.busy();
        int[][] of = {{2, 7, 5, 99}, {1, 5, 6, 99}, {3, 4, 5, 30}};
        for (int piece = 0; piece < 3; piece++) {
            for (int what = 0; what < 4; what++) {
                due.be("of(" + piece + ", " + what + ")", x.of(piece, what), of[piece][what]);
            }
        }
        due.refuse(Made::busy, -1, y -> y.of(-1, 0), y -> y.of(3, 0), y -> y.of(0, -1), y -> y.of(0, 4), y -> y.of(3, 4),
            y -> y.of(Integer.MIN_VALUE, 0), y -> y.of(Integer.MAX_VALUE, 0), y -> y.of(0, Integer.MIN_VALUE),
            y -> y.of(0, Integer.MAX_VALUE));
        due.be("the eighth", Made.eight("piece 7 5 5", "").of(7, 0), 7);
        due.refuse(() -> Made.eight("piece 7 5 5", ""), -1, y -> y.of(8, 0));
        due.refuse(Made::roadless, -1, y -> y.of(0, 0), y -> y.of(0, 3));
    }

    private static void bend(Due due, String clauses, int piece, int want) {
        due.be("BEND of " + piece + " by " + clauses, Made.eight("piece 1 5 5", clauses).of(piece, 3), want);
    }

    private static void terms1BendOfAPiece(Due due) {
        bend(due, "", 0, 99);
        bend(due, "", 7, 99);
        bend(due, ";bend 0 0", 0, 1);
        bend(due, ";bend 0 1", 0, 1);
        bend(due, ";bend 0 2", 0, 2);
        bend(due, ";bend 0 98", 0, 98);
        bend(due, ";bend 0 99", 0, 99);
        bend(due, ";bend 7 3", 7, 3);
        bend(due, ";bend 7 3", 6, 99);
        bend(due, ";bend 8 3;bend 9 4", 7, 99);
        bend(due, ";bend 3 9;bend 3 5", 3, 5);
        bend(due, ";bend 3 5;bend 3 9", 3, 9);
        bend(due, ";bend 3 5;bend 3 0", 3, 1);
        bend(due, ";bend 3 5;bend 4 9", 3, 5);
        due.be("ahead of its piece", Due.on("bend 1 8;piece 1 5 5;piece 1 5 5").of(1, 3), 8);
    }

    private static void promise5None(Due due) {
        HillRider x = Made.busy();
        int[] told = {3, 4, 18, 5, 3};
        for (int what = 0; what < 5; what++) {
            due.be("told(" + what + ")", x.told(what), told[what]);
        }
        due.refuse(Made::busy, -1, y -> y.told(-1), y -> y.told(5), y -> y.told(Integer.MIN_VALUE), y -> y.told(Integer.MAX_VALUE));
        due.refuse(Made::roadless, -1, y -> y.told(-1), y -> y.told(5));
        due.be("the most PIECES", Made.eight("piece 1 5 5", "").told(0), 8);
        due.be("no ROAD, no PIECES", Made.roadless().told(0), 0);
        for (int what = 1; what < 5; what++) {
            due.be("no ROAD: as one without clauses, " + what, Made.roadless().told(what), WITHOUT[what]);
        }
    }

    private static void setting(Due due, String word, int what, int without, int most) {
        due.be("without " + word, Due.on("piece 1 5 5").told(what), without);
        for (int n = 0; n <= 99; n++) {
            HillRider x = Due.on("piece 1 5 5;" + word + " " + n);
            due.be(word + " " + n, x.told(what), Math.min(n, most));
            for (int other = 0; other < 5; other++) {
                due.be("what else is told", x.told(other), other == what ? Math.min(n, most) : WITHOUT[other]);
            }
        }
    }

    private static void terms1Bar(Due due) {
        setting(due, "bar", 1, 4, 9);
        // what it says is what it does: an effort of 9 costs nothing
        due.be("behind 9 with bar 10", Due.on("piece 1 5 5;bar 10").rides(0, 9, 1, 2), 1);
        due.be("behind 8 with bar 10", Due.on("piece 1 5 5;bar 10;back 10").rides(0, 8, 1, 2), 2);
        due.be("behind 5 without", Due.on("piece 1 5 5").rides(0, 5, 1, 2), 0);
        due.be("behind 4 without", Due.on("piece 1 5 5").rides(0, 4, 1, 2), 1);
    }

    private static void terms1Store(Due due) {
        setting(due, "store", 2, 20, 60);
        due.be("60 of store 61", Due.on("piece 1 5 5;store 61").rides(0, 4, 60, 2), 60);
        due.be("61 of store 61", Due.on("piece 1 5 5;store 61").rides(0, 4, 61, 2), -2);
        due.be("20 without", Due.on("piece 1 5 5").rides(0, 4, 20, 2), 20);
        due.be("21 without", Due.on("piece 1 5 5").rides(0, 4, 21, 2), -2);
        due.be("0 of store 0", Due.on("piece 1 5 5;store 0").rides(0, 4, 0, 2), 0);
        due.be("1 of store 0", Due.on("piece 1 5 5;store 0").rides(0, 4, 1, 2), -2);
    }

    private static void terms1Back(Due due) {
        setting(due, "back", 3, 5, 99);
        due.be("without", Due.on("piece 1 5 5").rides(0, 0, 0, 2), 2);
        due.be("back 0", Due.on("piece 1 5 5;back 0").rides(0, 0, 0, 2), 0);
        due.be("back 99", Due.on("piece 1 5 5;back 99;store 60").rides(0, 0, 0, 2), 39);
    }

    private static void terms1Heat(Due due) {
        setting(due, "heat", 4, 0, 10);
        for (int n = 10; n <= 11; n++) {
            HillRider x = Due.on("piece 1 5 5;store 1;heat " + n);
            x.way(1, 5);
            due.be("surely hot", x.mean(0, 0), 6);
        }
        HillRider none = Due.on("piece 1 5 5;store 1");
        none.way(1, 5);
        due.be("never hot", none.mean(0, 0), 3);
    }

    private static void terms1TheLastN(Due due) {
        String[] words = {"bar", "store", "back", "heat"};
        int[] most = {9, 60, 99, 10};
        for (int i = 0; i < 4; i++) {
            String word = words[i];
            due.be("less", Due.on("piece 1 5 5;" + word + " 8;" + word + " 3").told(1 + i), 3);
            due.be("more", Due.on(word + " 3;piece 1 5 5;" + word + " 8").told(1 + i), 8);
            due.be("the most", Due.on(word + " 3;piece 1 5 5;" + word + " 99").told(1 + i), most[i]);
            due.be("less than the most", Due.on(word + " 99;" + word + " 3;piece 1 5 5").told(1 + i), 3);
            due.be("none", Due.on(word + " 99;" + word + " 0;piece 1 5 5").told(1 + i), 0);
        }
    }

    private static void terms1Effort0To9(Due due) {
        due.be("by 0", Due.on("piece 1 5 5").rides(0, 0, 0, 0), 20);
        due.be("by 9", Due.on("piece 1 5 5").rides(0, 9, 0, 0), 56);
        for (int w = 0; w <= 2; w++) {
            int what = w;
            due.refuse(Made::busy, -2, x -> x.rides(0, -1, 0, what), x -> x.rides(0, 10, 0, what),
                x -> x.rides(0, Integer.MIN_VALUE, 0, what), x -> x.rides(0, Integer.MAX_VALUE, 0, what));
        }
    }

    private static void speed(Due due, String road, int effort, int want) {
        due.be("SPEED by " + effort + " on " + road, Due.on(road).rides(0, effort, 0, 0), want);
    }

    private static void terms1SlopeAndWindLess5(Due due) {
        for (int digit = 0; digit <= 9; digit++) {
            speed(due, "piece 1 " + digit + " 5", 9, 56 - 5 * (digit - 5));
            speed(due, "piece 1 5 " + digit, 9, 56 - 2 * (digit - 5));
            speed(due, "piece 9 0 " + digit, 0, 45 - 2 * (digit - 5));
        }
        // the least and the most there are
        speed(due, "piece 1 9 9", 9, 28);
        speed(due, "piece 1 0 0", 9, 91);
    }

    private static void terms1AllEaseWhoseEHolds(Due due) {
        speed(due, "piece 1 5 5;ease 3 e=8", 9, 56);
        speed(due, "piece 1 5 5;ease 3 e=9", 9, 53);
        speed(due, "piece 1 5 5;ease 0 e=9", 9, 56);
        speed(due, "piece 1 5 5;ease 3 e=9;ease 4 e=9", 9, 49);
        speed(due, "piece 1 5 5;ease 3 e=9;ease 3 e=9", 9, 50);
        speed(due, "piece 1 5 5;ease 3 e=9;ease 4 e=8;ease 5 e>8", 9, 48);
        speed(due, "ease 3 e=9;piece 1 5 5;ease 4 e=9", 9, 49);
        speed(due, "piece 1 5 5;ease 55 e=9", 9, 1);
        // as many as there may be
        speed(due, "piece 1 5 5;" + Made.pieces(9, "ease 1 e>0"), 9, 47);
    }

    /** A test with < = > against n, where what it looks at is n less 1, n and n and 1. */
    private static void looksAt(Due due, String letter, int n, Due.Call... at) {
        String road = "piece 1 4 4;piece 1 5 5;piece 1 6 6;bar 9;ease 11 ";
        for (int relation = 0; relation < 3; relation++) {
            HillRider without = Due.on(road + "r>60");
            HillRider x = Due.on(road + letter + "<=>".charAt(relation) + n);
            for (int i = 0; i < 3; i++) {
                String call = letter + "<=>".charAt(relation) + n + " at " + (n - 1 + i);
                due.be(call, at[i].on(without) - at[i].on(x), i == relation ? 11 : 0);
            }
        }
    }

    private static void terms1WhatATestLooksAt(Due due) {
        looksAt(due, "k", 1, x -> x.rides(0, 0, 0, 0), x -> x.rides(1, 0, 0, 0), x -> x.rides(2, 0, 0, 0));
        looksAt(due, "e", 1, x -> x.rides(0, 0, 0, 0), x -> x.rides(0, 1, 0, 0), x -> x.rides(0, 2, 0, 0));
        looksAt(due, "e", 8, x -> x.rides(0, 7, 0, 0), x -> x.rides(0, 8, 0, 0), x -> x.rides(0, 9, 0, 0));
        looksAt(due, "s", 5, x -> x.rides(0, 0, 0, 0), x -> x.rides(1, 0, 0, 0), x -> x.rides(2, 0, 0, 0));
        looksAt(due, "w", 5, x -> x.rides(0, 0, 0, 0), x -> x.rides(1, 0, 0, 0), x -> x.rides(2, 0, 0, 0));
        looksAt(due, "r", 1, x -> x.rides(0, 0, 0, 0), x -> x.rides(0, 0, 1, 0), x -> x.rides(0, 0, 2, 0));
        looksAt(due, "r", 10, x -> x.rides(0, 9, 9, 0), x -> x.rides(0, 9, 10, 0), x -> x.rides(0, 9, 11, 0));
        // the least and the most that a test's number may be
        speed(due, "piece 1 5 5;ease 1 e<0", 0, 20);
        speed(due, "piece 1 5 5;ease 1 e=0", 0, 19);
        speed(due, "piece 1 5 5;ease 1 e<99", 9, 55);
        speed(due, "piece 1 5 5;ease 1 r>99", 9, 56);
        due.be("k of the eighth", Made.eight("piece 1 5 5", ";ease 1 k=7").rides(7, 0, 0, 0), 19);
        due.be("k of the seventh", Made.eight("piece 1 5 5", ";ease 1 k=7").rides(6, 0, 0, 0), 20);
        due.be("r of the most", Due.on("piece 1 5 5;store 60;ease 1 r=60").rides(0, 0, 60, 0), 19);
    }

    /** Tests that hold are written h, and others n. */
    private static void holds(Due due, String e, boolean want) {
        speed(due, "piece 1 5 5;ease 1 " + e.replace("h", "e=0").replace("n", "e>0"), 0, want ? 19 : 20);
    }

    private static void terms1WhenEHolds(Due due) {
        holds(due, "h", true);
        holds(due, "n", false);
        holds(due, "!h", false);
        holds(due, "!n", true);
        holds(due, "!!h", true);
        holds(due, "!!!!!n", true);
        boolean[] values = {false, true};
        for (boolean a : values) {
            for (boolean b : values) {
                for (boolean c : values) {
                    String[] t = {a ? "h" : "n", b ? "h" : "n", c ? "h" : "n"};
                    holds(due, t[0] + "|" + t[1] + "|" + t[2], a | b | c);
                    holds(due, t[0] + "&" + t[1] + "&" + t[2], a & b & c);
                    holds(due, t[0] + "|" + t[1] + "&" + t[2], a | b & c);
                    holds(due, t[0] + "&" + t[1] + "|" + t[2], a & b | c);
                    holds(due, "(" + t[0] + "|" + t[1] + ")&" + t[2], (a | b) & c);
                    holds(due, t[0] + "&(" + t[1] + "|" + t[2] + ")", a & (b | c));
                    holds(due, t[0] + "&(" + t[1] + "&" + t[2] + ")", a & b & c);
                    holds(due, t[0] + "|(" + t[1] + "|" + t[2] + ")", a | b | c);
                    holds(due, t[0] + "&(" + t[1] + "&(" + t[2] + "|" + t[0] + "))", a & b);
                    holds(due, t[0] + "|" + t[1] + "&(" + t[2] + "&(" + t[1] + "|" + t[0] + "))", a | b & c);
                    holds(due, "!" + t[0] + "&" + t[1] + "|" + t[2], !a & b | c);
                    holds(due, "!(" + t[0] + "&" + t[1] + "|" + t[2] + ")", !(a & b | c));
                    holds(due, "!(" + t[0] + "|" + t[1] + ")&" + t[2], !(a | b) & c);
                    holds(due, t[0] + "|!" + t[1] + "&!" + t[2], a | !b & !c);
                    holds(due, "(((((" + t[0] + "&" + t[1] + ")|" + t[2] + "))))", a & b | c);
                }
            }
        }
    }

    private static void terms1SpeedBendAtMost1AtLeast(Due due) {
        speed(due, "piece 1 5 5;bend 0 19", 0, 19);
        speed(due, "piece 1 5 5;bend 0 20", 0, 20);
        speed(due, "piece 1 5 5;bend 0 21", 0, 20);
        speed(due, "piece 1 5 5;bend 0 20", 1, 20);
        speed(due, "piece 1 5 5;bend 0 0", 9, 1);
        speed(due, "piece 1 5 5;bend 0 1", 9, 1);
        speed(due, "piece 1 5 5;bend 0 2", 9, 2);
        speed(due, "piece 1 5 5;bend 0 99", 9, 56);
        speed(due, "piece 1 5 5;bend 1 9", 9, 56);
        speed(due, "piece 1 5 5;ease 18 e=0", 0, 2);
        speed(due, "piece 1 5 5;ease 19 e=0", 0, 1);
        speed(due, "piece 1 5 5;ease 20 e=0", 0, 1);
        speed(due, "piece 1 5 5;ease 21 e=0", 0, 1);
        speed(due, "piece 1 5 5;ease 99 e=0;ease 99 e=0", 0, 1);
        // what the bend cuts is what the ease has left
        speed(due, "piece 1 5 5;bend 0 10;ease 9 e=0", 0, 10);
        speed(due, "piece 1 5 5;bend 0 10;ease 11 e=0", 0, 9);
    }

    private static void seconds(Due due, int length, int speed, int want) {
        HillRider x = Due.on("piece " + length + " 0 0;bend 0 " + speed);
        due.be("its SPEED", x.rides(0, 9, 0, 0), speed);
        due.be("SECONDS of " + length + " by " + speed, x.rides(0, 9, 0, 1), want);
    }

    private static void terms1SecondsRoundedUp(Due due) {
        seconds(due, 1, 20, 5);
        seconds(due, 1, 19, 6);
        seconds(due, 1, 21, 5);
        seconds(due, 1, 24, 5);
        seconds(due, 1, 25, 4);
        seconds(due, 1, 26, 4);
        seconds(due, 1, 33, 4);
        seconds(due, 1, 34, 3);
        seconds(due, 1, 91, 2);
        seconds(due, 3, 75, 4);
        seconds(due, 3, 74, 5);
        seconds(due, 9, 90, 10);
        seconds(due, 9, 91, 10);
        seconds(due, 9, 89, 11);
        seconds(due, 9, 2, 450);
        seconds(due, 9, 1, 900);
    }

    private static void behind(Due due, String road, int effort, int store, int want) {
        due.be("behind " + effort + " with " + store + " on " + road, Due.on(road).rides(0, effort, store, 2), want);
    }

    private static void terms1StoreAtMost(Due due) {
        behind(due, "piece 1 5 5;store 10", 0, 7, 9);
        behind(due, "piece 1 5 5;store 10", 0, 8, 10);
        behind(due, "piece 1 5 5;store 10", 0, 9, 10);
        behind(due, "piece 1 5 5;store 10", 0, 10, 10);
        behind(due, "piece 9 5 5;bar 9;back 99;store 60", 0, 0, 60);
        behind(due, "piece 9 5 5;bar 9;back 99;store 0", 0, 0, 0);
        behind(due, "piece 9 5 5;bar 9;back 99;store 1", 0, 0, 1);
        for (int store = 0; store <= 60; store += 12) {
            HillRider x = Due.on("piece 1 5 5;store " + store);
            x.way(0, 0);
            due.be("store at first", x.ride(0, 1), store);
        }
    }

    private static void terms1AboveBarElse(Due due) {
        String road = "piece 3 5 5;bar 6;back 10";
        behind(due, road, 5, 9, 12);
        behind(due, road, 6, 9, 9);
        behind(due, road, 7, 9, 6);
        behind(due, road, 8, 9, 3);
        behind(due, "piece 1 5 5;bar 0;back 10", 0, 9, 9);
        behind(due, "piece 1 5 5;bar 0;back 10", 1, 9, 8);
        behind(due, "piece 1 5 5;bar 9;back 10", 9, 9, 9);
        behind(due, "piece 1 5 5;bar 9;back 10", 8, 9, 10);
        // what goes above the bar has nothing to do with back
        behind(due, "piece 2 5 5;bar 6;back 0", 7, 9, 7);
        behind(due, "piece 2 5 5;bar 6;back 99", 7, 9, 7);
    }

    private static void terms1BackBy10Cut(Due due) {
        behind(due, "piece 1 5 5;back 9", 3, 5, 5);
        behind(due, "piece 1 5 5;back 10", 3, 5, 6);
        behind(due, "piece 1 5 5;back 11", 3, 5, 6);
        behind(due, "piece 1 5 5;back 19", 3, 5, 6);
        behind(due, "piece 1 5 5;back 20", 3, 5, 7);
        // cut once, behind all the times
        behind(due, "piece 3 5 5;back 5", 3, 5, 6);
        behind(due, "piece 4 5 5;back 5", 3, 5, 7);
        behind(due, "piece 9 5 5;back 1", 3, 5, 5);
        behind(due, "piece 5 5 5;back 1", 2, 5, 6);
        behind(due, "piece 3 5 5;back 9", 0, 5, 15);
        behind(due, "piece 9 5 5;bar 9;back 1", 0, 5, 13);
        behind(due, "piece 9 5 5;back 0", 0, 5, 5);
    }

    private static void terms1CanBe(Due due) {
        behind(due, "piece 3 5 5", 7, 10, 1);
        behind(due, "piece 3 5 5", 7, 9, 0);
        behind(due, "piece 3 5 5", 7, 8, -5);
        behind(due, "piece 1 5 5", 5, 0, -5);
        behind(due, "piece 1 5 5", 4, 0, 0);
        HillRider x = Due.on("piece 3 5 5");
        x.way(1, 7);
        due.be("it takes what can be", x.takes(0, 0, 9), 7);
        due.be("and less, where it can't", x.takes(0, 0, 8), 6);
    }

    private static void promise6ItCannotBe(Due due) {
        // five below, and one: it is -5 whatever is wanting
        behind(due, "piece 5 5 5", 5, 0, -5);
        behind(due, "piece 1 5 5", 5, 0, -5);
        behind(due, "piece 9 5 5;bar 0;store 60", 9, 60, -5);
        behind(due, "piece 9 5 5;bar 3;store 60", 9, 54, 0);
    }

    private static void promise6SpeedAllTheSame(Due due) {
        HillRider x = Due.on("piece 3 5 5");
        due.be("SPEED of one that can't be", x.rides(0, 9, 0, 0), 56);
        due.be("SECONDS of one that can't be", x.rides(0, 9, 0, 1), 6);
        due.be("SPEED of one that can", x.rides(0, 9, 20, 0), 56);
        due.be("SECONDS of one that can", x.rides(0, 9, 20, 1), 6);
    }

    private static void promise6NoneBad(Due due) {
        due.refuse(Made::busy, -1, x -> x.rides(-1, 0, 0, 0), x -> x.rides(3, 0, 0, 0), x -> x.rides(0, 0, 0, -1),
            x -> x.rides(0, 0, 0, 3), x -> x.rides(Integer.MAX_VALUE, 0, 0, 0), x -> x.rides(0, 0, 0, Integer.MIN_VALUE),
            // NONE ahead of BAD
            x -> x.rides(3, 10, 19, 0), x -> x.rides(-1, -1, -1, 0), x -> x.rides(0, 10, 0, 3), x -> x.rides(0, 0, 19, -1));
        due.refuse(Made::busy, -2, x -> x.rides(2, 0, -1, 0), x -> x.rides(2, 0, 19, 0), x -> x.rides(2, 0, 19, 1),
            x -> x.rides(2, 0, 19, 2), x -> x.rides(2, 0, Integer.MIN_VALUE, 2), x -> x.rides(2, 0, Integer.MAX_VALUE, 2),
            x -> x.rides(2, 10, 19, 2));
        due.be("store 0", Made.busy().rides(2, 4, 0, 2), 0);
        due.be("store 18", Made.busy().rides(2, 4, 18, 2), 18);
        due.be("the eighth piece", Made.eight("piece 1 5 5", "").rides(7, 0, 0, 0), 20);
        due.be("no ninth", Made.eight("piece 1 5 5", "").rides(8, 0, 0, 0), -1);
        due.refuse(Made::roadless, -1, x -> x.rides(0, 0, 0, 0), x -> x.rides(0, 10, 21, 0));
    }
}
