/** Promises 1 to 6, by hand. */
public final class RoadTest {
    private static final Due due = new Due();

    public static void main(String[] args) {
        aNewObject();
        feeding();
        roadsAndTheirNumbers();
        faults();
        openSigns();
        clausesAtMost();
        piecesAndBends();
        settings();
        speeds();
        eases();
        storesBehind();
        due.end("RoadTest");
    }

    private static void aNewObject() {
        HillRider x = new HillRider();
        for (int what = 0; what <= 5; what++) {
            due.be("count(" + what + ")", x.count(what), 0);
        }
        due.be("of on none", x.of(0, 0), -1);
        due.be("told(0)", x.told(0), 0);
        due.be("told(1)", x.told(1), 4);
        due.be("told(2)", x.told(2), 20);
        due.be("told(3)", x.told(3), 5);
        due.be("told(4)", x.told(4), 0);
        due.be("rides on none", x.rides(0, 0, 0, 0), -1);
        due.be("takes on none", x.takes(0, 0, 0), -1);
        due.be("undo", x.undo(), -3);
    }

    private static void feeding() {
        HillRider x = new HillRider();
        due.be("feed 0", x.feed(1, 0), -2);
        due.be("feed 9", x.feed(1, 9), -2);
        due.be("feed -1", x.feed(1, -1), -2);
        due.be("feed least", x.feed(1, Integer.MIN_VALUE), -2);
        for (int i = 1; i <= 14; i++) {
            due.be("feed 8", x.feed(-1, 8), 8 * i);
        }
        due.be("feed 7", x.feed(-1, 7), 119);
        due.be("feed 2", x.feed(-1, 2), -4);
        due.be("feed 9 of a full one", x.feed(-1, 9), -2);
        due.be("feed 1", x.feed(-1, 1), 120);
        due.be("feed 1 more", x.feed(-1, 1), -4);
        due.be("count(4)", x.count(4), 120);
        due.be("road of bytes 255", x.road(), -10);
        due.be("count(4) after", x.count(4), 0);
        x.feed(0x1234567800L | 'p', 1);
        x.feed(0x6965, 2);
        x.feed(0x6365203120352035L, 8);
        due.be("road of low bytes", x.road(), 0);
        due.be("of(0, 0)", x.of(0, 0), 1);
    }

    private static void roadsAndTheirNumbers() {
        HillRider x = new HillRider();
        due.be("road of nothing", x.road(), -10);
        for (int i = 0; i < 5; i++) {
            due.be("road", Due.road(x, "piece " + (i + 1) + " 5 5"), i);
            due.be("length", x.of(0, 0), i + 1);
            due.be("a fault", i == 4 ? -11 : Due.road(x, "p5"), -11);
            due.be("it holds", x.of(0, 0), i + 1);
            due.be("count(2)", x.count(2), i + 1);
        }
        Due.feed(x, "p5");
        due.be("road full", x.road(), -4);
        due.be("the tape stays", x.count(4), 2);
        due.be("the fifth holds", x.of(0, 0), 5);
    }

    private static void fault(String text, int place) {
        HillRider x = new HillRider();
        due.be("road of " + text, Due.road(x, text), -10 - place);
        due.be("the tape behind " + text, x.count(4), 0);
        due.be("roads behind " + text, x.count(2), 0);
    }

    private static void faults() {
        String[] shorts = {"p", "piece", "piece ", "piece 1", "piece 1 ", "piece 1 5", "piece 1 5 ", "b", "ba", "be",
            "bar", "bar ", "bar 4", "bar 4;", "bend 1", "bend 1 ", "ease", "ease 3", "ease 3 ", "ease 3 e", "ease 3 e>",
            "ease 3 e>1", "ease 3 e>1&", "ease 3 e>1|", "ease 3 !", "ease 3 (", "ease 3 (e>1", "s", "stor", "hea"};
        for (String text : shorts) {
            fault(text, text.length());
        }
        String[][] wrongs = {{"x", ""}, {"pi", "x"}, {"piece", "1"}, {"piece ", " "}, {"piece ", "0 5 5"},
            {"piece 1", "0 5 5"}, {"piece 1 5", "5"}, {"piece 1 5 5", "0"}, {"piece 1 5 5", " "}, {"bar 1", ","},
            {"bar 0", "1"}, {"bar 12", "3"}, {"bar ", "-1"}, {"ba", "x"}, {"bac", "l"}, {"be", "t"}, {"store", ";"},
            {"bend 1", "2 3"}, {"bend 1 0", "0"}, {"ease 00", ""}, {"ease 3 ", "f>1"}, {"ease 3 e", "!1"},
            {"ease 3 e>", "x"}, {"ease 3 e>0", "0"}, {"ease 3 e>12", "3"}, {"ease 3 e>1", ")"}, {"ease 3 e>1", "!"},
            {"ease 3 (e>1)", ")"}, {"ease 3 (e>1", ";"}, {"ease 3 e>1&", "|"}, {"ease 3 ", ")"}, {"ease 3 e>1", "(" },
            {"ease 3 (e>1)", "e>1"}, {"ease 3 e>1 ", ""}, {"piece 1 5 5;", ";"}, {"piece 1 5 5;", " "}};
        for (String[] wrong : wrongs) {
            if (!wrong[1].isEmpty()) {
                fault(wrong[0] + wrong[1], wrong[0].length());
                fault(wrong[0] + wrong[1] + ";piece 1 5 5", wrong[0].length());
            }
        }
        fault("x", 0);
        fault("ease 00", 6);
        fault("ease 3 e>1 ", 10);
        fault("\u00e9", 0);
        fault("piece 1 5 5;\u00ff", 12);
    }

    private static void openSigns() {
        String road = "piece 1 5 5;ease 1 ";
        fault(road + "!!!!!!e>1", 24);
        fault(road + "((((((e>1", 24);
        fault(road + "!(!(!(e>1", 24);
        fault(road + "(((((e>1)&((e>1", 30);
        due.be("five !", Due.road(new HillRider(), road + "!!!!!e>1&!!!!!e>1"), 0);
        due.be("five (", Due.road(new HillRider(), road + "(((((e>1)|(e>1)))))|((((!e>1"), -10 - road.length() - 28);
        due.be("five ( closed", Due.road(new HillRider(), road + "(((((e>1)|(e>1)))))|((((!e>1))))"), 0);
        due.be("! ends with its F", Due.road(new HillRider(), road + "!!!!(e>1&!e>1)"), -10 - road.length() - 9);
        due.be("! ends with its ()", Due.road(new HillRider(), road + "((((!e>1&!e>1|!k=0))))"), 0);
    }

    private static void clausesAtMost() {
        StringBuilder pieces = new StringBuilder("piece 1 5 5");
        for (int i = 0; i < 7; i++) {
            pieces.append(";piece 1 5 5");
        }
        HillRider x = new HillRider();
        due.be("eight pieces", Due.road(x, pieces.toString()), 0);
        due.be("told(0)", x.told(0), 8);
        fault(pieces + ";p", 96);
        fault(pieces + ";piece 1 5 5", 96);
        fault(pieces + ";bar 4;p", 102);
        fault(pieces + ";q", 96);
        StringBuilder bars = new StringBuilder("bar 1");
        for (int i = 0; i < 12; i++) {
            bars.append(";bar 1");
        }
        due.be("14 clauses", Due.road(new HillRider(), bars + ";piece 1 5 5"), 0);
        fault(bars + ";piece 1 5 5;", 89);
        fault(bars + ";piece 1 5 5;bar 1", 89);
        fault(bars + ";bar 1", 83);
        fault(bars + ";bar 1;", 83);
        fault(bars + ";bar 1;piece 1 5 5", 83);
        fault("bar 1", 5);
    }

    private static void piecesAndBends() {
        HillRider x = Due.on("bend 1 7;piece 9 0 9;piece 3 9 0;bend 0 0;bend 1 8;bend 5 3;bend 2 50;piece 1 5 5");
        int[][] wants = {{9, 0, 9, 1}, {3, 9, 0, 8}, {1, 5, 5, 50}};
        for (int piece = 0; piece < 3; piece++) {
            for (int what = 0; what < 4; what++) {
                due.be("of(" + piece + ", " + what + ")", x.of(piece, what), wants[piece][what]);
            }
        }
        due.be("of(3, 0)", x.of(3, 0), -1);
        due.be("of(-1, 0)", x.of(-1, 0), -1);
        due.be("of(0, -1)", x.of(0, -1), -1);
        due.be("of(0, 4)", x.of(0, 4), -1);
        Due.road(x, "piece 1 5 5");
        due.be("no bend", x.of(0, 3), 99);
        due.be("one piece", x.told(0), 1);
        due.be("of(1, 0) now", x.of(1, 0), -1);
    }

    private static void told(String clauses, int bar, int store, int back, int heat) {
        HillRider x = Due.on(clauses + "piece 1 5 5");
        due.be("bar of " + clauses, x.told(1), bar);
        due.be("store of " + clauses, x.told(2), store);
        due.be("back of " + clauses, x.told(3), back);
        due.be("heat of " + clauses, x.told(4), heat);
    }

    private static void settings() {
        told("", 4, 20, 5, 0);
        told("bar 0;store 0;back 0;heat 0;", 0, 0, 0, 0);
        told("bar 9;store 60;back 99;heat 10;", 9, 60, 99, 10);
        told("bar 10;store 61;back 10;heat 11;", 9, 60, 10, 10);
        told("bar 99;store 99;heat 99;", 9, 60, 5, 10);
        told("bar 9;bar 2;store 7;store 8;back 1;back 3;heat 9;heat 1;", 2, 8, 3, 1);
        HillRider x = Due.on("piece 1 5 5");
        due.be("told(5)", x.told(5), -1);
        due.be("told(-1)", x.told(-1), -1);
    }

    private static void speeds() {
        HillRider x = Due.on("piece 2 5 5;piece 3 9 9;piece 3 0 0;piece 9 9 9;bend 2 33");
        due.be("flat", x.rides(0, 0, 20, 0), 20);
        due.be("flat seconds", x.rides(0, 0, 20, 1), 10);
        due.be("flat 3", x.rides(0, 3, 20, 0), 32);
        due.be("flat 3 seconds", x.rides(0, 3, 20, 1), 7);
        due.be("uphill", x.rides(1, 0, 20, 0), 1);
        due.be("uphill seconds", x.rides(1, 0, 20, 1), 300);
        due.be("uphill 3", x.rides(1, 3, 20, 0), 4);
        due.be("uphill 3 seconds", x.rides(1, 3, 20, 1), 75);
        due.be("downhill", x.rides(2, 0, 20, 0), 33);
        due.be("downhill seconds", x.rides(2, 0, 20, 1), 10);
        due.be("seconds at most", x.rides(3, 0, 0, 1), 900);
        due.be("piece -1", x.rides(-1, 0, 0, 0), -1);
        due.be("piece 4 ahead of BAD", x.rides(4, 10, 99, 0), -1);
        due.be("what 3 ahead of BAD", x.rides(0, 10, 99, 3), -1);
        due.be("what -1", x.rides(0, 0, 0, -1), -1);
        due.be("effort -1", x.rides(0, -1, 0, 0), -2);
        due.be("effort 10", x.rides(0, 10, 0, 0), -2);
        due.be("store -1", x.rides(0, 0, -1, 0), -2);
        due.be("store 21", x.rides(0, 0, 21, 0), -2);
        due.be("store 20", x.rides(0, 0, 20, 2), 20);
    }

    private static int slowed(String test, int piece, int effort, int store) {
        HillRider x = Due.on("piece 1 5 6;piece 1 4 5;bar 9;ease 1 " + test);
        return x.rides(piece, effort, store, 0);
    }

    private static void eases() {
        due.be("k=1 on 0", slowed("k=1", 0, 0, 0), 18);
        due.be("k=1 on 1", slowed("k=1", 1, 0, 0), 24);
        due.be("e<2 at 1", slowed("e<2", 0, 1, 0), 21);
        due.be("e<2 at 2", slowed("e<2", 0, 2, 0), 26);
        due.be("s=4 on 1", slowed("s=4", 1, 0, 0), 24);
        due.be("s=5 on 1", slowed("s=5", 1, 0, 0), 25);
        due.be("w>5 on 0", slowed("w>5", 0, 0, 0), 17);
        due.be("w>5 on 1", slowed("w>5", 1, 0, 0), 25);
        due.be("r>12 at 12", slowed("r>12", 0, 0, 12), 18);
        due.be("r>12 at 13", slowed("r>12", 0, 0, 13), 17);
        due.be("or behind and", slowed("k=0|k=1&e>5", 0, 0, 0), 17);
        due.be("and ahead of or", slowed("e>5&k=1|k=0", 0, 0, 0), 17);
        due.be("brackets", slowed("(k=0|k=1)&e>5", 0, 0, 0), 18);
        due.be("! of a test alone", slowed("!k=1&k=1", 0, 0, 0), 18);
        due.be("! of a test, or", slowed("!k=0|k=0", 0, 0, 0), 17);
        due.be("! of brackets", slowed("!(k=0|k=1)", 0, 0, 0), 18);
        due.be("!! of a test", slowed("!!k=0", 0, 0, 0), 17);
        due.be("!(!..&..)", slowed("!(!k=0&e=0)", 0, 0, 0), 17);
        due.be("three ors", slowed("k=5|k=6|k=0", 0, 0, 0), 17);
        due.be("three ands", slowed("k=0&e=0&r=1", 0, 0, 0), 18);
        HillRider x = Due.on("piece 1 5 5;ease 3 e<9;ease 4 r>2;ease 99 e=5;ease 0 e=0;bend 0 14");
        due.be("two hold", x.rides(0, 0, 3, 0), 13);
        due.be("one holds", x.rides(0, 0, 2, 0), 14);
        due.be("1 at least", x.rides(0, 5, 3, 0), 1);
        Due.road(x, "piece 1 5 5;ease 3 e=0");
        due.be("the eases of the road before are gone", x.rides(0, 5, 3, 0), 40);
        due.be("its own holds", x.rides(0, 0, 3, 0), 17);
    }

    private static void storesBehind() {
        HillRider x = Due.on("piece 2 5 5;piece 1 5 5;back 7;store 15;bar 3");
        due.be("above", x.rides(0, 7, 15, 2), 7);
        due.be("to none", x.rides(0, 7, 8, 2), 0);
        due.be("below none", x.rides(0, 7, 7, 2), -5);
        due.be("its speed still", x.rides(0, 7, 7, 0), 48);
        due.be("its seconds still", x.rides(0, 7, 7, 1), 5);
        due.be("at the bar", x.rides(0, 3, 7, 2), 7);
        due.be("back 2*3*7/10", x.rides(0, 0, 7, 2), 11);
        due.be("back 1*2*7/10", x.rides(1, 1, 7, 2), 8);
        due.be("back at most", x.rides(0, 0, 13, 2), 15);
        HillRider none = Due.on("piece 1 5 5;store 0");
        due.be("store 0", none.rides(0, 4, 0, 2), 0);
        due.be("store 0, 5", none.rides(0, 5, 0, 2), -5);
        due.be("store 0, ahead 1", none.rides(0, 0, 1, 2), -2);
    }
}
