/** Promises 16 to 21, by hand. */
public final class HeatTest {
    private static final Due due = new Due();

    public static void main(String[] args) {
        noFractions();
        oneHotPiece();
        twoHotPieces();
        surelyHot();
        nothingComesBack();
        gears();
        gearTies();
        by();
        wheels();
        wheelsThatLose();
        laps();
        due.end("HeatTest");
    }

    private static void mean(HillRider x, int way, long above, long below) {
        due.be("mean above", x.mean(way, 0), above);
        due.be("mean below", x.mean(way, 1), below);
    }

    private static void sure(HillRider x, int way, int t, long above, long below) {
        due.be("sure above by " + t, x.sure(way, t, 0), above);
        due.be("sure below by " + t, x.sure(way, t, 1), below);
    }

    private static void noFractions() {
        HillRider x = new HillRider();
        x.way(0, 0);
        due.be("mean without pieces", x.mean(0, 0), HillRider.NO);
        due.be("sure without pieces", x.sure(0, 5, 0), HillRider.NO);
        Due.road(x, "piece 1 5 5");
        due.be("mean of way 1", x.mean(1, 0), HillRider.NO);
        due.be("mean of way -1", x.mean(-1, 1), HillRider.NO);
        due.be("mean part 2", x.mean(0, 2), HillRider.NO);
        due.be("mean part -1", x.mean(0, -1), HillRider.NO);
        due.be("sure of way 1", x.sure(1, 5, 0), HillRider.NO);
        due.be("sure part 2", x.sure(0, 5, 2), HillRider.NO);
        due.be("sure part -1", x.sure(0, 5, -1), HillRider.NO);
        due.be("sure by -1", x.sure(0, -1, 0), HillRider.NO);
        due.be("sure by 10000", x.sure(0, 10000, 0), HillRider.NO);
        sure(x, 0, 9999, 1, 1);
        sure(x, 0, 0, 0, 1);
        mean(x, 0, 3, 1);
    }

    private static void oneHotPiece() {
        // by 9: 200/56 = 4 seconds; it costs 10, hot 20
        HillRider x = Due.on("piece 2 5 5;heat 4;store 19");
        x.way(1, 9);
        mean(x, 0, 28, 5);
        sure(x, 0, 3, 0, 1);
        sure(x, 0, 4, 3, 5);
        sure(x, 0, 7, 3, 5);
        sure(x, 0, 8, 1, 1);
        Due.road(x, "piece 2 5 5;heat 4;store 20");
        mean(x, 0, 4, 1);
        sure(x, 0, 4, 1, 1);
    }

    private static void twoHotPieces() {
        // by 9 a second piece takes 2 or, empty, 3 by 4; 5 costs the first, hot 10
        HillRider x = Due.on("piece 1 5 5;piece 1 5 5;heat 3;store 10");
        x.way(1, 9);
        // cold, cold 2+2: 49; cold, hot 2+4: 21; hot: empty, by 4: 2+3: 30
        mean(x, 0, 118, 25);
        sure(x, 0, 4, 49, 100);
        sure(x, 0, 5, 79, 100);
        sure(x, 0, 6, 1, 1);
    }

    private static void surelyHot() {
        HillRider x = Due.on("piece 1 5 5;piece 1 5 5;heat 10;store 9");
        x.way(1, 9);
        // the first costs 10 of 9: empty and 4 seconds; then by 4
        mean(x, 0, 7, 1);
        sure(x, 0, 6, 0, 1);
        sure(x, 0, 7, 1, 1);
        HillRider cool = Due.on("piece 1 5 5;piece 1 5 5;heat 0;store 9");
        cool.way(1, 9);
        // 9 then 8: 2 and 2
        mean(cool, 0, 4, 1);
    }

    private static void nothingComesBack() {
        // empty behind the first; by 0 on the second 5 come back, if it is cold
        HillRider x = Due.on("piece 1 5 5;piece 1 5 5;piece 1 5 5;back 13;heat 5;store 10");
        x.way(5, 0);
        x.line(0, 0, 9);
        x.line(0, 1, 0);
        x.line(0, 2, 9);
        // behind the first 5 (cold) or 0 (hot), each 2 seconds; the second 5 seconds
        // cold and cold: 10, so 2 seconds; cold and hot: 5: 2, hot 4; hot and cold: 5; hot and hot: 0: 3
        mean(x, 0, 39, 4);
        sure(x, 0, 9999, 1, 1);
        Due.road(x, "piece 1 5 5");
        mean(x, 0, 2, 1);
        sure(x, 0, 9999, 1, 1);
    }

    private static void gears() {
        HillRider x = new HillRider();
        due.be("what 2", x.gears(0, 2), -1);
        due.be("what -1", x.gears(0, -1), -1);
        due.be("k 0", x.gears(0, 0), -2);
        due.be("k 5", x.gears(5, 1), -2);
        due.be("no pieces", x.gears(1, 0), -3);
        Due.road(x, "piece 1 5 5;piece 1 9 9;store 5");
        due.be("one gear", x.gears(1, 0), 1);
        due.be("one gear's seconds", x.gears(1, 1), 5 + 100);
        // 0 and 9: 5 + 4; 0 and 7: 3 + 5 costs 3 of 5, and then 7 is too much
        due.be("two gears", x.gears(2, 0), 1 + 512);
        due.be("two gears' seconds", x.gears(2, 1), 5 + 4);
        due.be("three gears", x.gears(3, 0), 1 + 16 + 512);
        due.be("three gears' seconds", x.gears(3, 1), 3 + 4);
        Due.road(x, "piece 1 5 5");
        due.be("another road's", x.gears(1, 1), 5);
    }

    private static void gearTies() {
        HillRider flat = Due.on("piece 1 5 5;bend 0 1");
        for (int k = 1; k <= 4; k++) {
            due.be("of several the fewest", flat.gears(k, 0), 1);
            due.be("seconds", flat.gears(k, 1), 100);
        }
        HillRider least = Due.on("piece 1 5 5;bend 0 30;store 60");
        due.be("then the least as bits", least.gears(2, 0), 1 + 4);
        due.be("of four, too", least.gears(4, 0), 1 + 4);
        due.be("seconds", least.gears(4, 1), 4);
    }

    private static void by() {
        HillRider x = new HillRider();
        due.be("no pieces", x.by(1), -3);
        due.be("1024 without pieces", x.by(1024), -2);
        Due.road(x, "piece 1 5 5;piece 1 9 9;store 5");
        due.be("-1", x.by(-1), -2);
        due.be("1024", x.by(1024), -2);
        due.be("none", x.by(0), 105);
        due.be("0", x.by(1), 105);
        due.be("4", x.by(16), 3 + 13);
        due.be("4 and 0", x.by(17), 3 + 13);
        due.be("4 and 9", x.by(16 + 512), 3 + 4);
        due.be("all", x.by(1023), x.soonest(0, 5, 0));
    }

    private static void wheels() {
        HillRider x = Due.on("piece 1 5 5;piece 1 5 5;piece 1 9 9;store 5");
        x.way(1, 9);
        // without: 2, 3, 13; on the first: 2, by 6 3, 13; on the second: 2, by 4 as if by 2 3, by 5 9
        due.be("one: without", x.ride(0, 0), 2 + 3 + 13);
        due.be("one: followed", x.wheel(0, 1, 0), 1);
        due.be("one: worth", x.wheel(0, 1, 1), 13 - 9);
        // a wheel on two: 2 behind the first; by 6 as if by 4: 2; then by 6: 7
        due.be("two: followed", x.wheel(0, 2, 0), 0);
        due.be("two: worth", x.wheel(0, 2, 1), 18 - (2 + 3 + 7));
        due.be("three: worth", x.wheel(0, 3, 1), 18 - (2 + 3 + 7));
        due.be("four", x.wheel(0, 4, 0), -5);
        due.be("eight", x.wheel(0, 8, 1), -5);
        due.be("k 9", x.wheel(0, 9, 1), -2);
        due.be("k 0", x.wheel(0, 0, 1), -2);
        due.be("what 2 ahead of k", x.wheel(0, 0, 2), -1);
        due.be("what -1", x.wheel(0, 1, -1), -1);
        due.be("way 1 ahead of k", x.wheel(1, 0, 0), -1);
        HillRider y = new HillRider();
        y.way(0, 0);
        due.be("no pieces", y.wheel(0, 1, 0), -3);
        due.be("no pieces, k 9", y.wheel(0, 9, 0), -2);
    }

    private static void wheelsThatLose() {
        // a fuller store slows: without 13 behind the first, with the wheel 15
        HillRider x = Due.on("piece 1 5 5;piece 1 5 5;bar 4;store 18;ease 15 r>13");
        x.way(1, 9);
        due.be("without", x.ride(0, 0), 3 + 2);
        due.be("the last, where it does no harm", x.wheel(0, 1, 0), 1);
        due.be("worth none", x.wheel(0, 1, 1), 0);
        due.be("worth below none", x.wheel(0, 2, 1), 5 - (3 + 3));
        due.be("followed all the same", x.wheel(0, 2, 0), 0);
        // 2 less, and 0 at least: by 1 as if by 0
        HillRider y = Due.on("piece 1 5 5;piece 1 5 5;bar 1;back 10;store 9;ease 20 r>8");
        y.way(1, 1);
        due.be("0 at least", y.wheel(0, 2, 1), 0);
    }

    private static void laps() {
        HillRider x = new HillRider();
        due.be("no way", x.laps(0), -10001);
        due.be("way -1", x.laps(-1), -10001);
        x.way(1, 9);
        due.be("no pieces", x.laps(0), -10002);
        Due.road(x, "piece 1 5 5;piece 1 9 9;store 5");
        // 2 and 13, then 3 and 13
        due.be("slower", x.laps(0), 1);
        Due.road(x, "piece 3 5 5;store 15;ease 40 r=15");
        // 300/16 = 19 by 9; then by 4: 300/36
        due.be("by 4 then", x.laps(0), 9 - 19);
    }
}
