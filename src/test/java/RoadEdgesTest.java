import java.io.IOException;
import java.util.List;

/** Promise 3: what is a road, where a fault is, and how many roads there may be. */
public final class RoadEdgesTest {
    private static final String PIECE = "piece 1 5 5";
    private static final String[] AHEAD_OF_N = {"bend 0 ", "ease ", "bar ", "store ", "back ", "heat ", "ease 1 e<", "ease 1 (r="};
    private static final String[] BEHIND_N = {"", " e=0", "", "", "", "", "", ")"};

    private RoadEdgesTest() {
    }

    public static void main(String[] args) throws IOException {
        Edges edges = new Edges("RoadEdgesTest");
        edges.test("==== 1", "CLAUSES, 14 at most", RoadEdgesTest::terms1Clauses14AtMost);
        edges.test("==== 1", "with ; between", RoadEdgesTest::terms1SemicolonBetween);
        edges.test("==== 1", "piece l s w; bend k n; ease n E; bar n; store n; back n; heat n", RoadEdgesTest::terms1Words);
        edges.test("==== 1", "one blank ahead of each part behind the word", RoadEdgesTest::terms1OneBlankAhead);
        edges.test("==== 1", "l a digit 1 .. 9", RoadEdgesTest::terms1LADigit1To9);
        edges.test("==== 1", "s, w, k a digit", RoadEdgesTest::terms1SWKADigit);
        edges.test("==== 1", "n 1 or 2 digits", RoadEdgesTest::terms1N1Or2Digits);
        edges.test("==== 1", "no 0 ahead of another", RoadEdgesTest::terms1No0AheadOfAnother);
        edges.test("==== 1", "8 at most: the word of a ninth one is a FAULT", RoadEdgesTest::terms1NinthPiece);
        edges.test("==== 1", "at least one: without one the FAULT is the size", RoadEdgesTest::terms1AtLeastOnePiece);
        edges.test("==== 1", "E: T, or T|E. T: F, or F&T. F: !F, (E), or a TEST", RoadEdgesTest::terms1WhatEIs);
        edges.test("==== 1", "k or e or s or w or r, one of < = >, a number likewise", RoadEdgesTest::terms1WhatATestIs);
        edges.test("==== 1", "At most 5 of ! and ( are open", RoadEdgesTest::terms1AtMost5Open);
        edges.test("==== 1", "a ( till its )", RoadEdgesTest::terms1OpenTillItsBracket);
        edges.test("==== 1", "a ! till its F ends", RoadEdgesTest::terms1OpenTillItsFEnds);
        edges.test("==== 1", "FAULT: the place of the first byte with which no ROAD can go on", RoadEdgesTest::terms1FaultFirstByte);
        edges.test("==== 1", "(the size, if it ends too early)", RoadEdgesTest::terms1FaultTheSize);
        edges.test("==== 1", "ROADS are numbered from 0 on, 5 at most", RoadEdgesTest::terms1Roads5AtMost);
        edges.test("==== 1", "the newest one holds", RoadEdgesTest::terms1TheNewestHolds);
        edges.test("==== 1", "the newest one holds", RoadEdgesTest::terms1TheNewestHoldsInAllAnswers);
        edges.test("==== 1", "without one there are no PIECES", RoadEdgesTest::terms1NoPiecesWithoutARoad);
        edges.test("Promise 3", "THE TAPE, which is empty then (by a FAULT, too)", RoadEdgesTest::promise3TapeEmptyThen);
        edges.test("Promise 3", "THE TAPE, which is empty then (by a FAULT, too)", RoadEdgesTest::promise3NothingOfTheTapeBefore);
        edges.test("Promise 3", "is a ROAD, and holds: its number; -10 less the FAULT", RoadEdgesTest::promise3NumberOrFault);
        edges.test("Promise 3", "(the one that held holds)", RoadEdgesTest::promise3TheOneThatHeldHolds);
        edges.test("Promise 3", "FULL (ahead of all; THE TAPE stays)", RoadEdgesTest::promise3FullAheadOfAll);
        edges.end();
    }

    private static void road(Due due, String text) {
        due.be("road of " + text, Due.road(new HillRider(), text), 0);
    }

    private static void fault(Due due, String text, int place) {
        due.be("road of " + text, Due.road(new HillRider(), text), -10 - place);
    }

    /** The text's last byte is the one that can't be; nor can it with a road behind it. */
    private static void faultAtEnd(Due due, String... texts) {
        for (String text : texts) {
            fault(due, text, text.length() - 1);
            fault(due, text + ";" + PIECE, text.length() - 1);
        }
    }

    private static void terms1Clauses14AtMost(Due due) {
        String thirteen = Made.pieces(13, "bar 1");
        road(due, thirteen + ";" + PIECE);
        road(due, PIECE + ";" + thirteen);
        road(due, Made.pieces(12, "bar 1") + ";" + PIECE);
        fault(due, thirteen + ";" + PIECE + ";bar 1", 89);
        fault(due, PIECE + ";" + thirteen + ";bar 1", 89);
        fault(due, PIECE + ";" + thirteen + ";", 89);
        fault(due, Made.pieces(14, "bar 1") + ";" + PIECE, 83);
        String mixed = "piece 1 5 5;bend 0 9;ease 1 k=0;store 9;back 9;heat 9;" + Made.pieces(8, "bar 1");
        road(due, mixed);
        fault(due, mixed + ";bar 1", mixed.length());
    }

    private static void terms1SemicolonBetween(Due due) {
        road(due, "bar 1;" + PIECE + ";bar 2");
        faultAtEnd(due, ";", PIECE + ";;", PIECE + ",", PIECE + ":", PIECE + " ", PIECE + "p", "bar 1;;", "bar 1 ");
        fault(due, PIECE + ";", 12);
        fault(due, "bar 1;", 6);
    }

    private static void terms1Words(Due due) {
        road(due, "piece 9 9 9;bend 9 99;ease 99 r>99;bar 99;store 99;back 99;heat 99");
        faultAtEnd(due, "P", "a", "c", "pa", "piecee", "pieces", "bo", "bax", "beg", "bez", "bende", "bars", "bacs", "backk",
            "ea ", "easy", "easee", "sa", "stora", "stores", "ha", "heap", "heats", "piec ", "ben ", "ba ", "stor ", "bac ", "hea ");
    }

    private static void terms1OneBlankAhead(Due due) {
        faultAtEnd(due, " ", "piece1", "piece  ", "piece\t", "piece 15", "piece 1  ", "piece 1 55", "piece 1 5  ",
            "bend1", "bend  ", "bend 11", "bend 1  ", "bend 1\t", "ease1", "ease  ", "ease 1e", "ease 1  ", "ease 11e",
            "bar1", "bar  ", "store1", "store  ", "back1", "back  ", "heat1", "heat  ",
            "ease 1 e ", "ease 1 e= ", "ease 1 ! ", "ease 1 ( ", "ease 1 e=1 ", "ease 1 e=1& ", "ease 1 e=1| ");
        fault(due, "piece 1 5 5 ", 11);
        fault(due, " " + PIECE, 0);
    }

    private static void terms1LADigit1To9(Due due) {
        for (int l = 1; l <= 9; l++) {
            due.be("length", Due.on("piece " + l + " 5 5").of(0, 0), l);
        }
        faultAtEnd(due, "piece 0", "piece /", "piece :", "piece -", "piece 10", "piece 90", "piece 99");
    }

    private static void terms1SWKADigit(Due due) {
        for (int n = 0; n <= 9; n++) {
            HillRider x = Due.on("piece 1 " + n + " " + (9 - n) + ";bend " + n + " 7");
            due.be("slope", x.of(0, 1), n);
            due.be("wind", x.of(0, 2), 9 - n);
            due.be("bend", x.of(0, 3), n == 0 ? 7 : 99);
        }
        faultAtEnd(due, "piece 1 /", "piece 1 :", "piece 1 -", "piece 1 55", "piece 1 05", "piece 1 5 /", "piece 1 5 :",
            "piece 1 5 -", "piece 1 5 55", "piece 1 5 05", "bend /", "bend :", "bend -", "bend 10", "bend 00");
    }

    private static void terms1N1Or2Digits(Due due) {
        for (int i = 0; i < AHEAD_OF_N.length; i++) {
            for (String n : List.of("1", "9", "10", "19", "90", "99")) {
                road(due, AHEAD_OF_N[i] + n + BEHIND_N[i] + ";" + PIECE);
            }
            faultAtEnd(due, AHEAD_OF_N[i] + "/", AHEAD_OF_N[i] + ":", AHEAD_OF_N[i] + "-", AHEAD_OF_N[i] + ";",
                AHEAD_OF_N[i] + "100", AHEAD_OF_N[i] + "999", AHEAD_OF_N[i] + "1/", AHEAD_OF_N[i] + "1:");
            fault(due, PIECE + ";" + AHEAD_OF_N[i], 12 + AHEAD_OF_N[i].length());
        }
    }

    private static void terms1No0AheadOfAnother(Due due) {
        for (int i = 0; i < AHEAD_OF_N.length; i++) {
            road(due, AHEAD_OF_N[i] + "0" + BEHIND_N[i] + ";" + PIECE);
            faultAtEnd(due, AHEAD_OF_N[i] + "00", AHEAD_OF_N[i] + "01", AHEAD_OF_N[i] + "09");
        }
    }

    private static void terms1NinthPiece(Due due) {
        for (int count = 1; count <= 8; count++) {
            due.be("pieces", Due.on(Made.pieces(count, PIECE)).told(0), count);
        }
        String eight = Made.pieces(8, PIECE);
        fault(due, eight + ";" + PIECE, 96);
        fault(due, eight + ";p", 96);
        fault(due, eight + ";pax", 96);
        fault(due, eight + ";bar 1;" + PIECE, 102);
        fault(due, eight + ";bax", 98);
        fault(due, eight + ";", 96);
        road(due, eight + ";bar 1");
    }

    private static void terms1AtLeastOnePiece(Due due) {
        road(due, PIECE);
        road(due, "bar 1;" + PIECE);
        fault(due, "", 0);
        fault(due, "bar 1", 5);
        fault(due, "bend 0 9;ease 1 e=0;store 9;back 9;heat 9", 41);
        fault(due, Made.pieces(13, "bar 1"), 77);
        fault(due, Made.pieces(14, "bar 1"), 83);
        fault(due, "bar 1;x", 6);
    }

    private static void ease(Due due, String e, int place) {
        String text = PIECE + ";ease 1 " + e;
        due.be("road of " + text, Due.road(new HillRider(), text), place < 0 ? 0 : -10 - 19 - place);
    }

    private static void terms1WhatEIs(Due due) {
        for (String e : List.of("e=0", "e=0|e=0", "e=0&e=0", "e=0|e=0|e=0", "e=0&e=0&e=0", "e=0|e=0&e=0|e=0", "!e=0", "(e=0)",
            "!(e=0)", "(!e=0)", "!!e=0", "((e=0))", "(e=0|e=0)&e=0", "!e=0&!e=0", "(e=0)|(e=0)", "(e=0&(e=0|e=0))")) {
            ease(due, e, -1);
            ease(due, e + "&", e.length() + 1);
            ease(due, e + "|", e.length() + 1);
            ease(due, e + ")", e.length());
            ease(due, e + "(", e.length());
            ease(due, e + "!", e.length());
            ease(due, e + "e", e.length());
            ease(due, e + "||", e.length() + 1);
            ease(due, e + "|&", e.length() + 1);
            ease(due, e + "&&", e.length() + 1);
            ease(due, e + "&|", e.length() + 1);
            ease(due, "(" + e, e.length() + 1);
            ease(due, "(" + e + ";", e.length() + 1);
            ease(due, "(" + e + "))", e.length() + 2);
        }
        for (String e : List.of("|", "&", ")", ";", "!|", "!&", "!)", "!;", "(|", "(&", "()", "(;")) {
            ease(due, e, e.length() - 1);
            ease(due, e + "e=0", e.length() - 1);
        }
    }

    private static void terms1WhatATestIs(Due due) {
        for (int sign = 0; sign < 256; sign++) {
            boolean isLetter = "keswr".indexOf(sign) >= 0;
            boolean opens = sign == '!' || sign == '(';
            ease(due, (char) sign + "=0", isLetter ? -1 : opens ? 1 : 0);
            boolean isRelation = sign == '<' || sign == '=' || sign == '>';
            ease(due, "e" + (char) sign + "0", isRelation ? -1 : 1);
        }
    }

    /** Signs that open, told by bits. */
    private static String opening(int count, int bits) {
        StringBuilder signs = new StringBuilder();
        for (int i = 0; i < count; i++) {
            signs.append((bits >> i & 1) == 1 ? '(' : '!');
        }
        return signs.toString();
    }

    private static String closed(String opening, String e) {
        StringBuilder all = new StringBuilder(opening + e);
        for (int i = 0; i < opening.length(); i++) {
            all.append(opening.charAt(i) == '(' ? ")" : "");
        }
        return all.toString();
    }

    private static void terms1AtMost5Open(Due due) {
        for (int bits = 0; bits < 64; bits++) {
            ease(due, closed(opening(5, bits), "e=0"), -1);
            ease(due, closed(opening(6, bits), "e=0"), 5);
            ease(due, closed("e=0&" + opening(6, bits), "e=0"), 9);
            ease(due, closed("e=0|" + opening(6, bits), "e=0"), 9);
        }
        String five = ";ease 1 !!!!!e=0";
        road(due, PIECE + five + five + five);
    }

    private static void terms1OpenTillItsBracket(Due due) {
        // five open, one closed, one more open
        ease(due, "(((((e=0)&(e=0)))))", -1);
        ease(due, "(((((e=0)|!e=0))))", -1);
        ease(due, "(((((e=0)))))&(((((e=0)))))", -1);
        ease(due, "(((((e=0)&((e=0))))))", 11);
        ease(due, "(((((e=0)|(!e=0)))))", 11);
        // still open behind a test, and behind a join
        ease(due, "(((((e=0&(", 9);
        ease(due, "(((((e=0|(", 9);
        ease(due, "(((((e=0&!", 9);
        ease(due, "((((e=0&(e=0))))) ", 17);
    }

    private static void terms1OpenTillItsFEnds(Due due) {
        ease(due, "!!!!!e=0&!!!!!e=0|!!!!!e=0", -1);
        ease(due, "!!!!!e=0&!!!!!!e=0", 14);
        // its F is all that the brackets hold
        ease(due, "!((((e=0&e=0))))", -1);
        ease(due, "!((((e=0&!", 9);
        ease(due, "!((((e=0|(", 9);
        ease(due, "!((((e=0))))|!((((e=0))))", -1);
        ease(due, "!(!(!e=0))&!(!(!e=0))", -1);
        ease(due, "((((!e=0&!e=0|!e=0))))", -1);
        ease(due, "((((!e=0&!!e=0", 10);
    }

    private static void terms1FaultFirstByte(Due due) {
        String all = "piece 1 5 5;bend 0 9;ease 9 !(e=0&k<1)|s>9;bar 4;store 20;back 5;heat 10;piece 2 5 5";
        for (int place = 0; place < all.length(); place++) {
            for (int wrong : new int[] {0, 127, 255, all.charAt(place) | 128}) {
                fault(due, all.substring(0, place) + (char) wrong + all.substring(place + 1), place);
                fault(due, all.substring(0, place) + (char) wrong, place);
            }
        }
        fault(due, all + "x", all.length());
        fault(due, "bar x;bar y", 4);
        String most = Made.pieces(8, PIECE) + ";bend 0 99;store 10;bar 6";
        road(due, most);
        fault(due, most.substring(0, 119) + "x", 119);
        fault(due, "x" + most.substring(1), 0);
    }

    private static void terms1FaultTheSize(Due due) {
        String all = "piece 1 5 5;bend 0 9;ease 9 !(e=0&k<1)|s>9;bar 4;store 20;back 5;heat 10;piece 2 5 5";
        List<String> roads = List.of("", ";bend 0 9", ";ease 9 !(e=0&k<1)", "|s>9", ";bar 4", ";store 2", "0", ";back 5", ";heat 1",
            "0", ";piece 2 5 5");
        String road = "piece 1 5 5";
        int told = 0;
        for (int size = 0; size <= all.length(); size++) {
            boolean isRoad = size == road.length();
            due.be("road of the first " + size, Due.road(new HillRider(), all.substring(0, size)), isRoad ? 0 : -10 - size);
            if (isRoad && told + 1 < roads.size()) {
                told++;
                road += roads.get(told);
            }
        }
        due.be("all of it was told", road.equals(all) ? 1 : 0, 1);
        fault(due, Made.pieces(8, PIECE) + ";bend 0 99;store 10;ease ", 120);
    }

    private static void terms1Roads5AtMost(Due due) {
        HillRider x = new HillRider();
        for (int i = 0; i < 5; i++) {
            due.be("road", Due.road(x, PIECE), i);
            due.be("count(2)", x.count(2), i + 1);
            due.be("a fault is no road", i < 4 ? Due.road(x, "x") : -10, -10);
        }
        due.be("a sixth", Due.road(x, PIECE), -4);
        due.be("count(2)", x.count(2), 5);
    }

    private static void terms1TheNewestHolds(Due due) {
        HillRider x = Due.on("piece 2 9 9;piece 3 9 9;bend 0 7;bar 7;store 7;back 7;heat 7;ease 7 k=0");
        due.be("bar of the first", x.told(1), 7);
        due.be("the second", Due.road(x, "piece 1 5 5"), 1);
        int[] told = {1, 4, 20, 5, 0};
        for (int what = 0; what < 5; what++) {
            due.be("told(" + what + ")", x.told(what), told[what]);
        }
        int[] of = {1, 5, 5, 99};
        for (int what = 0; what < 4; what++) {
            due.be("of(0, " + what + ")", x.of(0, what), of[what]);
        }
        due.be("of(1, 0)", x.of(1, 0), -1);
        due.be("no ease", x.rides(0, 0, 20, 0), 20);
        due.be("soonest", x.soonest(0, 20, 0), 2);
    }

    /** What was worked out on a road before, or read from a tape before, counts no more. */
    private static void terms1TheNewestHoldsInAllAnswers(Due due) {
        String[] roads = {Made.pieces(8, PIECE), PIECE + ";" + PIECE, "piece 1 9 9;ease 7 r>9", "piece 9 9 9;piece 9 9 9;store 60;heat 5",
            "piece 1 5 5;ease 9 e>1&e<9"};
        HillRider x = new HillRider();
        x.way(3, 0);
        for (int i = 0; i < roads.length; i++) {
            HillRider alone = Due.on(roads[i]);
            alone.way(3, 0);
            due.be("road", Due.road(x, roads[i]), i);
            due.be("ride of BEST", x.ride(0, 0), alone.ride(0, 0));
            due.be("the store at its end", x.ride(0, 1), alone.ride(0, 1));
            due.be("by 0 and 9", x.by(512), alone.by(512));
            due.be("by all", x.by(1023), alone.by(1023));
            due.be("price", x.price(0, 5), alone.price(0, 5));
            due.be("mean", x.mean(0, 0), alone.mean(0, 0));
            for (int k = 1; k <= 4; k++) {
                due.be("gears", x.gears(k, 0), alone.gears(k, 0));
                due.be("their seconds", x.gears(k, 1), alone.gears(k, 1));
            }
        }
    }

    private static void promise3NothingOfTheTapeBefore(Due due) {
        HillRider x = new HillRider();
        due.be("a longer one", Due.road(x, "piece 1 5 5;bar 12;ease 1 e=0&e=0&e=0"), 0);
        due.be("none", x.road(), -10);
        due.be("less than its piece", Due.road(x, "piece 1 5 "), -20);
        due.be("its piece alone", Due.road(x, "piece 1 5 5"), 1);
        due.be("bar", x.told(1), 4);
        due.be("one digit less", Due.road(x, "piece 1 5 5;bar 1"), 2);
        due.be("bar", x.told(1), 1);
        // many tapes with many tests, and one that counts
        String faulty = "piece 1 5 5;ease 1 " + Made.pieces(19, "e>0").replace(';', '&') + "&";
        for (int i = 0; i < 20; i++) {
            due.be("a fault", Due.road(x, faulty), -10 - faulty.length());
        }
        due.be("a road", Due.road(x, "piece 1 5 5;ease 3 e=0"), 3);
        due.be("its ease holds", x.rides(0, 0, 0, 0), 17);
        due.be("by 1 it does not", x.rides(0, 1, 0, 0), 24);
    }

    private static void terms1NoPiecesWithoutARoad(Due due) {
        due.be("told(0)", new HillRider().told(0), 0);
        due.be("count(0)", new HillRider().count(0), 0);
        HillRider faulty = new HillRider();
        Due.road(faulty, "piece 1 5 5;bar");
        due.be("nor behind a fault", faulty.told(0), 0);
        due.refuse(Made::roadless, -1, x -> x.of(0, 0), x -> x.rides(0, 0, 0, 0), x -> x.takes(0, 0, 0), x -> x.soonest(0, 0, 0),
            x -> x.price(0, 1), x -> x.ride(0, 10));
        due.refuse(Made::roadless, -3, x -> x.ride(0, 0), x -> x.ride(3, 1), x -> x.loses(0), x -> x.gears(1, 0), x -> x.by(0),
            x -> x.wheel(0, 1, 0));
        due.refuse(Made::roadless, -10002, x -> x.laps(0));
        due.refuse(Made::roadless, HillRider.NO, x -> x.mean(0, 0), x -> x.sure(0, 0, 0));
        due.be("none on which an effort can't be", Made.roadless().judged(0), -5);
    }

    private static void promise3TapeEmptyThen(Due due) {
        for (String text : List.of(PIECE, "piece 1 5 x", "piece", "x")) {
            HillRider x = new HillRider();
            Due.road(x, text);
            due.be("bytes behind " + text, x.count(4), 0);
            due.be("the next byte is the first", x.feed('b', 1), 1);
            due.be("a fault from there on", x.road(), -11);
        }
    }

    private static void promise3NumberOrFault(Due due) {
        HillRider x = new HillRider();
        due.be("a fault at 0", x.road(), -10);
        due.be("the first", Due.road(x, PIECE), 0);
        due.be("a fault at 1", Due.road(x, "px"), -11);
        due.be("the second", Due.road(x, PIECE), 1);
    }

    private static void promise3TheOneThatHeldHolds(Due due) {
        due.be("a fault", Due.road(Made.busy(), "4;piece 9"), -10 - 25);
        // but for the tape, as if nothing had come
        for (int look = 0; look < 2; look++) {
            HillRider faulty = Made.busy();
            Due.road(faulty, "4;piece 9 9 9;piece 9 9 9;piece 9 9 9;heat 10;bend 0 1;ease 1 e=x");
            Due.feed(faulty, "piece 7 3 2;bar ");
            due.be("look " + look, Look.at(faulty, look).equals(Look.at(Made.busy(), look)) ? 1 : 0, 1);
        }
        HillRider none = new HillRider();
        Due.road(none, "piece 1 5 5;x");
        due.be("none holds", none.count(0), 0);
    }

    private static void promise3FullAheadOfAll(Due due) {
        due.refuse(Made::full, -4, HillRider::road);
        due.be("with a tape of faults", Made.full().road(), -4);
        due.refuse(() -> fiveRoads(""), -4, HillRider::road);
        due.refuse(() -> fiveRoads("x"), -4, HillRider::road);
        due.refuse(() -> fiveRoads(PIECE), -4, HillRider::road);
        HillRider x = fiveRoads("piece");
        x.road();
        due.be("the tape stays", x.count(4), 5);
        due.be("it goes on", x.feed(' ', 1), 6);
    }

    private static HillRider fiveRoads(String tape) {
        HillRider x = new HillRider();
        for (int i = 1; i <= 5; i++) {
            Due.road(x, "piece " + i + " 5 5");
        }
        Due.feed(x, tape);
        return x;
    }
}
