/** Calls with whatever numbers, in whatever order: none may throw, and what is refused changes nothing. */
public final class WildTest {
    private static final int[] WILD = {Integer.MIN_VALUE, Integer.MIN_VALUE + 10, -65536, -6, -2, -1, 0, 1, 2, 3, 4, 5, 7, 8,
        9, 10, 11, 17, 18, 20, 60, 61, 119, 120, 121, 255, 1023, 1024, 9999, 10000, Integer.MAX_VALUE - 1, Integer.MAX_VALUE};
    private static final Due due = new Due();
    private long seed;

    private WildTest(long seed) {
        this.seed = seed;
    }

    public static void main(String[] args) {
        for (int run = 1; run <= 300; run++) {
            new WildTest(run).run();
        }
        due.end("WildTest");
    }

    private int next(int n) {
        seed = seed * 6364136223846793005L + 1442695040888963407L;
        return (int) ((seed >>> 33) % n);
    }

    private int wild() {
        return next(3) == 0 ? next(12) : WILD[next(WILD.length)];
    }

    private void run() {
        HillRider x = new HillRider();
        int[] counts = new int[6];
        for (int i = 0; i < 512; i++) {
            if (next(60) == 0 && x.count(4) == 0) {
                Due.road(x, "piece 9 9 9;piece 9 0 0;piece 1 5 5;piece 2 5 5;piece 3 5 5;piece 4 5 5;piece 5 5 5;"
                    + "piece 6 6 6;store 60;heat 5");
            }
            for (int what = 0; what < 5; what++) {
                counts[what] = x.count(what);
            }
            int pick = next(26);
            long answer = call(x, pick);
            boolean refused = answer < 0 && answer > -5 && pick != 1 && pick != 20;
            for (int what = 0; what < 5 && refused; what++) {
                due.be("count(" + what + ") behind a refused " + pick, x.count(what), counts[what]);
            }
        }
    }

    private long call(HillRider x, int pick) {
        switch (pick) {
            case 0: return x.feed((long) wild() << 32 | wild(), wild());
            case 1: return x.road();
            case 2: return x.of(wild(), wild());
            case 3: return x.told(wild());
            case 4: return x.rides(wild(), wild(), wild(), wild());
            case 5: return x.way(wild(), wild());
            case 6: return x.line(wild(), wild(), wild());
            case 7: return x.takes(wild(), wild(), wild());
            case 8: return x.ride(wild(), wild());
            case 9: return x.soonest(wild(), wild(), wild());
            case 10: return x.price(wild(), wild());
            case 11: return x.loses(wild());
            case 12: return x.row(wild());
            case 13: return x.judged(wild());
            case 14: return x.mean(wild(), wild());
            case 15: return x.sure(wild(), wild(), wild());
            case 16: return x.gears(wild(), wild());
            case 17: return x.by(wild());
            case 18: return x.wheel(wild(), wild(), wild());
            case 19: return x.laps(wild());
            case 20: return x.act(wild(), wild(), wild());
            case 21: return x.trace(wild());
            case 22: return x.as(wild(), wild());
            case 23: return x.image();
            case 24: return x.undo();
            default: return x.count(wild());
        }
    }
}
