/** Promises 11 to 15, by hand. */
public final class SoonestTest {
    private static final Due due = new Due();

    public static void main(String[] args) {
        ties();
        wrongOnes();
        prices();
        losses();
        rows();
        judgedRows();
        lostRows();
        due.end("SoonestTest");
    }

    private static void soonest(HillRider x, int piece, int store, int... wants) {
        due.be("seconds", x.soonest(piece, store, 0), wants[0]);
        due.be("store", x.soonest(piece, store, 1), wants[1]);
        for (int i = 2; i < wants.length; i++) {
            due.be("effort on " + (piece + i - 2), x.soonest(piece, store, 8 + piece + i), wants[i]);
        }
    }

    private static void ties() {
        // all efforts take 100 seconds: the most store, then the first row
        HillRider flat = Due.on("piece 1 5 5;piece 1 5 5;bend 0 1;bend 1 1;bar 1;store 5;back 9");
        soonest(flat, 0, 5, 200, 5, 0, 0);
        soonest(flat, 0, 0, 200, 0, 0, 0);
        soonest(flat, 1, 3, 100, 3, 0);
        // what comes back beyond the store is gone: of 0,0 and 0,1 and 1,0, all with 5 behind, the first
        HillRider back = Due.on("piece 1 5 5;piece 1 5 5;bend 0 1;bend 1 1;bar 2;store 5;back 10");
        soonest(back, 0, 2, 200, 5, 0, 0);
        // 0 on the first piece would slow there alone: by 1 as soon as by 2, and more store
        HillRider slow = Due.on("piece 1 5 5;piece 1 5 5;bend 0 1;bend 1 1;bar 2;store 5;back 10;ease 1 e=0;bend 0 21");
        soonest(slow, 0, 0, 105, 3, 1, 0);
        // 3 seconds by 4 or 5 on the first; uphill 13 by 4, 9 by 5, 7 by 6, 5 by 7 or 8, 4 by 9
        HillRider up = Due.on("piece 1 5 5;piece 1 9 9;bar 4;store 5");
        soonest(up, 0, 5, 7, 0, 4, 9);
        soonest(up, 1, 4, 5, 1, 7);
        soonest(up, 1, 0, 13, 0, 4);
    }

    private static void wrongOnes() {
        HillRider x = Due.on("piece 1 5 5;piece 1 5 5;store 7");
        due.be("piece 2", x.soonest(2, 8, 0), -1);
        due.be("piece -1", x.soonest(-1, 8, 0), -1);
        due.be("what 2", x.soonest(0, 8, 2), -1);
        due.be("what 9", x.soonest(0, 8, 9), -1);
        due.be("what -1", x.soonest(0, 8, -1), -1);
        due.be("what 12", x.soonest(0, 8, 12), -1);
        due.be("what 10 from 1", x.soonest(1, 8, 10), -1);
        due.be("store 8", x.soonest(0, 8, 0), -2);
        due.be("store -1", x.soonest(0, -1, 0), -2);
        due.be("price of 2", x.price(2, 8), -1);
        due.be("price of -1", x.price(-1, 8), -1);
        due.be("price at 0", x.price(0, 0), -2);
        due.be("price at -1", x.price(0, -1), -2);
        due.be("price at 8", x.price(0, 8), -2);
        due.be("price on none", new HillRider().price(0, 1), -1);
        due.be("soonest on none", new HillRider().soonest(0, 0, 0), -1);
    }

    private static void prices() {
        HillRider x = Due.on("piece 1 9 9;bar 4;store 9");
        int[] seconds = {13, 9, 7, 5, 5, 4, 4};
        for (int store = 0; store < seconds.length; store++) {
            due.be("seconds", x.soonest(0, store, 0), seconds[store]);
        }
        for (int store = 1; store < seconds.length; store++) {
            due.be("price", x.price(0, store), seconds[store - 1] - seconds[store]);
        }
        HillRider less = Due.on("piece 1 5 5;ease 15 r>8");
        due.be("a store that slows", less.price(0, 9), 2 - 3);
    }

    private static void losses() {
        HillRider x = Due.on("piece 1 5 5;piece 1 9 9;bar 4;store 5");
        x.way(1, 9);
        x.way(3, 0);
        x.way(0, 0);
        due.be("even loses", x.loses(0), 2 + 13 - 7);
        due.be("best loses", x.loses(1), 0);
        due.be("way loses", x.loses(2), 3 + 13 - 7);
        due.be("way 3", x.loses(3), -1);
        HillRider y = new HillRider();
        due.be("no way, no pieces", y.loses(0), -1);
        y.way(0, 0);
        due.be("no pieces", y.loses(0), -3);
    }

    private static void rows() {
        HillRider x = new HillRider();
        due.be("row(-2)", x.row(-2), -2);
        due.be("row(10)", x.row(10), -2);
        for (int i = 1; i <= 8; i++) {
            due.be("row", x.row(i), i);
        }
        due.be("row full", x.row(0), -4);
        due.be("row full and bad", x.row(10), -2);
        due.be("count(3)", x.count(3), 8);
        due.be("row(-1)", x.row(-1), 0);
        due.be("count(3) then", x.count(3), 0);
        due.be("row(-1) again", x.row(-1), 0);
    }

    private static void judged(HillRider x, int first, int empty, int lost, int much) {
        due.be("judged(0)", x.judged(0), first);
        due.be("judged(1)", x.judged(1), empty);
        due.be("judged(2)", x.judged(2), lost);
        due.be("judged(3)", x.judged(3), much);
    }

    private static void tell(HillRider x, int... efforts) {
        x.row(-1);
        for (int effort : efforts) {
            x.row(effort);
        }
    }

    private static void judgedRows() {
        HillRider x = new HillRider();
        due.be("judged(4)", x.judged(4), -1);
        due.be("judged(-1)", x.judged(-1), -1);
        tell(x, 9, 9, 9);
        judged(x, -5, -5, -5, 0);
        Due.road(x, "piece 1 5 5;piece 1 5 5;piece 1 5 5;store 5;bend 0 1;bend 1 1;bend 2 1");
        judged(x, 1, 0, -5, 0);
        tell(x, 5, 9, 9);
        judged(x, 1, -5, -5, 0);
        tell(x, 5, 8, 4, 9);
        judged(x, -5, 1, -5, 0);
        tell(x, 5, 7, 5);
        judged(x, -5, 2, -5, 0);
        tell(x, 4, 9, 5);
        judged(x, 2, 1, -5, 0);
        HillRider none = Due.on("piece 1 5 5;piece 1 5 5;store 0");
        tell(none, 4, 4);
        judged(none, -5, 0, -5, 0);
        tell(none, 5, 4);
        judged(none, 0, -5, -5, 0);
        tell(none);
        judged(none, -5, -5, -5, 0);
    }

    private static void lostRows() {
        // by 0: 5 seconds, by 4: 3, by 9: 2; uphill 13 by 4, 4 by 9
        HillRider x = Due.on("piece 1 5 5;piece 1 5 5;piece 1 5 5;store 0");
        tell(x, 4, 4, 4);
        judged(x, -5, 0, -5, 0);
        tell(x, 4, 0, 0);
        judged(x, -5, 0, 1, 5 - 3);
        tell(x, 0, 4, 0);
        due.be("of several the first", x.judged(2), 0);
        tell(x, 4, 4, 0, 0, 9);
        due.be("the last", x.judged(2), 2);
        HillRider y = Due.on("piece 1 5 5;piece 1 9 9;store 5");
        tell(y, 9, 4);
        judged(y, -5, 0, 0, 2 + 13 - 7);
        tell(y, 9, 5);
        judged(y, 1, 0, 0, 2 + 13 - 7);
        tell(y, 4, 0);
        judged(y, -5, -5, 1, 100 - 4);
        tell(y, 4);
        judged(y, -5, -5, -5, 0);
    }
}
