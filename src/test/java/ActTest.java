/** Promises 22 to 27, by hand, and the constants. */
public final class ActTest {
    private static final Due due = new Due();

    public static void main(String[] args) {
        constants();
        goes();
        spends();
        rests();
        wrapping();
        noAct();
        kinds();
        counts();
        images();
        imageOfAll();
        imageOfRoads();
        due.end("ActTest");
    }

    private static void constants() {
        due.be("NONE", HillRider.NONE, -1);
        due.be("BAD", HillRider.BAD, -2);
        due.be("STATE", HillRider.STATE, -3);
        due.be("FULL", HillRider.FULL, -4);
        due.be("NO", HillRider.NO, Long.MIN_VALUE);
    }

    /** Ways 0 to 6 of the kinds 0 to 6, each with the v 3. */
    private static HillRider ofEachKind() {
        HillRider x = new HillRider();
        for (int kind = 0; kind < 7; kind++) {
            x.way(kind, 3);
        }
        return x;
    }

    private static void act(HillRider x, int way, int act, int number, int want, int... bodies) {
        String call = "act(" + way + ", " + act + ", " + number + ")";
        due.be(call, x.act(way, act, number), want);
        due.be("count(5) of " + call, x.count(5), bodies.length);
        for (int i = 0; i < bodies.length; i++) {
            due.be("trace(" + i + ") of " + call, x.trace(i), bodies[i]);
        }
        due.be("beyond the trace of " + call, x.trace(bodies.length), -1);
        due.be("trace(-1) of " + call, x.trace(-1), -1);
    }

    private static void goes() {
        HillRider x = ofEachKind();
        act(x, 0, 0, 10, 10, 1);
        act(x, 1, 0, 10, 31, 11, 1);
        act(x, 2, 0, 10, 12, 1);
        act(x, 3, 0, 10, 33, 11, 1);
        act(x, 4, 0, 10, 34 ^ 4, 51, 11, 1);
        act(x, 5, 0, 10, 15, 1);
        act(x, 6, 0, 10, 16, 1);
    }

    private static void spends() {
        HillRider x = ofEachKind();
        act(x, 0, 1, 10, 7, 2, 1);
        act(x, 1, 1, 10, 28, 2, 11, 1);
        act(x, 2, 1, 10, -9, 21, 2, 1);
        act(x, 3, 1, 10, 30, 2, 11, 1);
        act(x, 4, 1, 10, (34 ^ 4) - 3, 2, 51, 11, 1);
        act(x, 5, 1, 10, -12 + 3, 61, 21, 2, 1);
        act(x, 6, 1, 10, 13, 2, 1);
    }

    private static void rests() {
        HillRider x = ofEachKind();
        act(x, 0, 2, 10, 14, 3, 2, 1);
        act(x, 1, 2, 10, 56, 3, 2, 11, 1);
        act(x, 2, 2, 10, -18, 3, 21, 2, 1);
        act(x, 3, 2, 10, (27 + 3 - 3) * 2 + 9, 41, 3, 2, 11, 1, 11, 1);
        act(x, 4, 2, 10, ((34 ^ 4) - 3) * 2, 3, 2, 51, 11, 1);
        act(x, 5, 2, 10, -18, 3, 61, 21, 2, 1);
        act(x, 6, 2, 10, 26 ^ 7, 31, 3, 2, 1);
    }

    private static void wrapping() {
        HillRider x = ofEachKind();
        act(x, 1, 0, Integer.MAX_VALUE, Integer.MAX_VALUE * 3 + 1, 11, 1);
        act(x, 2, 0, Integer.MAX_VALUE, Integer.MIN_VALUE + 1, 1);
        act(x, 3, 2, Integer.MIN_VALUE, Integer.MAX_VALUE * 6 + 9, 41, 3, 2, 11, 1, 11, 1);
        act(x, 0, 2, Integer.MIN_VALUE + 1, -4, 3, 2, 1);
        act(x, 2, 1, Integer.MIN_VALUE + 1, Integer.MIN_VALUE, 21, 2, 1);
    }

    private static void noAct() {
        HillRider x = ofEachKind();
        int[][] wrongs = {{7, 0}, {-1, 0}, {8, 0}, {0, 3}, {0, -1}, {Integer.MAX_VALUE, 1}, {1, Integer.MIN_VALUE}};
        for (int[] wrong : wrongs) {
            act(x, 3, 2, 10, 63, 41, 3, 2, 11, 1, 11, 1);
            act(x, wrong[0], wrong[1], 5, 0);
        }
    }

    private static void kinds() {
        HillRider x = new HillRider();
        for (int kind = 0; kind < 7; kind++) {
            x.way(kind, kind + 2);
        }
        boolean[][] under = new boolean[7][7];
        int[] above = {-1, 0, 0, 1, 1, 2, 0};
        for (int kind = 0; kind < 7; kind++) {
            for (int k = kind; k >= 0; k = above[k]) {
                under[kind][k] = true;
            }
        }
        for (int way = 0; way < 7; way++) {
            for (int k = 0; k < 7; k++) {
                due.be("as(" + way + ", " + k + ")", x.as(way, k), under[way][k] ? way + 2 : -6);
            }
        }
        due.be("as(7, 0)", x.as(7, 0), -1);
        due.be("as(-1, 0)", x.as(-1, 0), -1);
        due.be("as(0, 7)", x.as(0, 7), -1);
        due.be("as(0, -1)", x.as(0, -1), -1);
    }

    private static void counts() {
        HillRider x = Due.on("piece 1 5 5;piece 1 5 5;piece 1 5 5");
        Due.road(x, "piece 1 5 5;piece 2 5 5");
        x.way(1, 1);
        x.row(1);
        x.row(2);
        x.row(3);
        Due.feed(x, "piece 1 5 5;");
        x.act(0, 0, 1);
        int[] wants = {2, 1, 2, 3, 12, 2};
        for (int what = 0; what < 6; what++) {
            due.be("count(" + what + ")", x.count(what), wants[what]);
        }
        due.be("count(6)", x.count(6), -1);
        due.be("count(-1)", x.count(-1), -1);
    }

    private static void images() {
        HillRider x = new HillRider();
        due.be("undo of none", x.undo(), -3);
        due.be("image", x.image(), 0);
        x.way(0, 0);
        x.way(1, 1);
        due.be("image of two", x.image(), 2);
        x.way(2, 2);
        due.be("undo", x.undo(), 2);
        due.be("count(1)", x.count(1), 2);
        due.be("as(2, 0)", x.as(2, 0), -1);
        due.be("a way in its place", x.way(5, 5), 2);
        due.be("as(2, 5)", x.as(2, 5), 5);
        due.be("undo again", x.undo(), 2);
        due.be("count(1) again", x.count(1), 2);
    }

    private static void imageOfAll() {
        HillRider x = Due.on("piece 1 5 5;piece 2 5 5");
        x.way(5, 1);
        x.line(0, 0, 7);
        x.row(3);
        Due.feed(x, "pi");
        x.act(0, 0, 1);
        due.be("image", x.image(), 1);
        x.line(0, 0, 8);
        x.line(0, 1, 8);
        x.row(-1);
        x.row(1);
        x.row(1);
        Due.feed(x, "xx");
        x.act(0, 2, 1);
        due.be("undo", x.undo(), 1);
        due.be("the trace stays", x.count(5), 5);
        due.be("its bodies stay", x.trace(0), 3);
        due.be("bytes", x.count(4), 2);
        due.be("the tape's bytes", Due.road(x, "ece 3 5 5"), 1);
        due.be("length", x.of(0, 0), 3);
        x.undo();
        due.be("row", x.count(3), 1);
        due.be("judged(3)", x.judged(3), 4 - 2);
        due.be("line(0, 0)", x.line(0, 0, 1), 7);
        due.be("line(0, 1)", x.line(0, 1, 1), -5);
        x.undo();
        due.be("line(0, 0) again", x.line(0, 0, 1), 7);
        x.way(5, 2);
        x.line(1, 3, 4);
        x.undo();
        x.way(5, 2);
        due.be("a new one tells nothing", x.line(1, 3, 4), -5);
    }

    private static void imageOfRoads() {
        HillRider x = new HillRider();
        x.way(3, 0);
        x.image();
        Due.road(x, "piece 1 5 5");
        due.be("ride", x.ride(0, 0), 2);
        x.undo();
        due.be("no roads", x.count(2), 0);
        due.be("no pieces", x.ride(0, 0), -3);
        due.be("told(0)", x.told(0), 0);
        Due.road(x, "piece 2 5 5");
        due.be("ride on another", x.ride(0, 0), 4);
        x.image();
        Due.road(x, "piece 1 5 5;heat 10;store 3");
        due.be("ride on a third", x.ride(0, 0), 3);
        due.be("gears on a third", x.gears(2, 1), 3);
        x.undo();
        due.be("ride as then", x.ride(0, 0), 4);
        due.be("gears as then", x.gears(2, 1), 4);
        due.be("the number is free again", Due.road(x, "piece 9 5 5"), 1);
        due.be("ride on the new one", x.ride(0, 0), x.soonest(0, 20, 0));
        due.be("length", x.of(0, 0), 9);
        for (int i = 2; i < 5; i++) {
            Due.road(x, "piece 1 5 5");
        }
        due.be("full", x.road(), -4);
        x.undo();
        due.be("no more", x.road(), -10);
    }
}
