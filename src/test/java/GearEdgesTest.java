import java.io.IOException;

/** Promises 18 and 19: few gears. */
public final class GearEdgesTest {
    /** Each gear more is worth something, up to five of them. */
    private static final String STEEP = "piece 2 8 7;piece 1 7 6;piece 3 5 8;piece 2 9 8;bar 2;store 13";

    private GearEdgesTest() {
    }

    public static void main(String[] args) throws IOException {
        Edges edges = new Edges("GearEdgesTest");
        edges.test("==== 3", "GEARS: of all sets of k EFFORTS or fewer that have 0", GearEdgesTest::terms3KOrFewerThatHave0);
        edges.test("==== 3", "by which the SOONEST from the beginning, of EFFORTS of it alone, has the fewest SECONDS",
            GearEdgesTest::terms3FewestSeconds);
        edges.test("==== 3", "of several that of the fewest", GearEdgesTest::terms3OfSeveralTheFewest);
        edges.test("==== 3", "of several that of the fewest, then the least as bits.", GearEdgesTest::terms3ThenTheLeastAsBits);
        edges.test("Promise 18", "GEARS by k (1 .. 4)", GearEdgesTest::promise18K1To4);
        edges.test("Promise 18", "1 SECONDS. NONE; BAD; STATE.", GearEdgesTest::promise18NoneBadState);
        edges.test("Promise 19", "(bits 0 .. 9; 0 always among them)", GearEdgesTest::promise19Bits0To9);
        edges.test("Promise 19", "0 always among them", GearEdgesTest::promise19ZeroAlways);
        edges.test("Promise 19", "BAD; STATE.", GearEdgesTest::promise19BadState);
        edges.end();
    }

    private static void gears(Due due, String road, int k, int set, int seconds) {
        HillRider x = Due.on(road);
        due.be("the set of " + k + " on " + road, x.gears(k, 0), set);
        due.be("SECONDS of " + k + " on " + road, x.gears(k, 1), seconds);
        due.be("SECONDS by that set", x.by(set), seconds);
    }

    private static void terms3KOrFewerThatHave0(Due due) {
        gears(due, STEEP, 1, 1, 435);
        gears(due, STEEP, 2, 1 + 32, 51);
        gears(due, STEEP, 3, 1 + 4 + 32, 46);
        gears(due, STEEP, 4, 1 + 4 + 8 + 32, 44);
        due.be("by all", Due.on(STEEP).by(1023), 43);
    }

    private static void terms3FewestSeconds(Due due) {
        for (int k = 1; k <= 4; k++) {
            // an object of its own for each k: it answers 512 calls
            HillRider x = Due.on(STEEP);
            int fewest = Integer.MAX_VALUE;
            for (int set = 1; set < 1024; set += 2) {
                fewest = Integer.bitCount(set) > k ? fewest : Math.min(fewest, x.by(set));
            }
            due.be("the fewest of all sets of " + k, x.gears(k, 1), fewest);
        }
    }

    private static void terms3OfSeveralTheFewest(Due due) {
        for (int k = 1; k <= 4; k++) {
            gears(due, "piece 1 5 5;bend 0 1", k, 1, 100);
            gears(due, "piece 9 5 5;bar 0;store 0", k, 1, 45);
            gears(due, "piece 1 5 5;store 60", k, k == 1 ? 1 : 1 + 256, k == 1 ? 5 : 2);
        }
        // 0 and 9 do as well as 0, 1 and 2, which are less as bits
        String one = "piece 1 5 5;piece 1 5 5;bar 9;bend 0 20;bend 1 20;ease 99 !(e=9|k=0&e=1|k=1&e=2)";
        gears(due, one, 2, 1 + 512, 10);
        gears(due, one, 3, 1 + 512, 10);
        gears(due, one, 4, 1 + 512, 10);
        due.be("by 0, 1 and 2", Due.on(one).by(1 + 2 + 4), 10);
    }

    private static void terms3ThenTheLeastAsBits(Due due) {
        // 4 seconds by 2 and whatever is more
        gears(due, "piece 1 5 5;bend 0 28", 2, 1 + 4, 4);
        gears(due, "piece 1 5 5;bend 0 28", 4, 1 + 4, 4);
        gears(due, "piece 1 5 5;bend 0 28;ease 9 e=2", 2, 1 + 8, 4);
        // eight sets of four take 29 seconds, none of three
        gears(due, "piece 1 6 3;piece 3 4 8;piece 1 9 4;piece 3 4 7;bar 0;store 24", 4, 1 + 2 + 16 + 32, 29);
        gears(due, "piece 1 6 3;piece 3 4 8;piece 1 9 4;piece 3 4 7;bar 0;store 24", 3, 1 + 2 + 16, 30);
    }

    private static void promise18K1To4(Due due) {
        due.be("k 1", Made.busy().gears(1, 0), 1);
        due.be("k 4", Integer.bitCount(Made.busy().gears(4, 0)) <= 4 ? 1 : 0, 1);
        due.refuse(Made::busy, -2, x -> x.gears(0, 0), x -> x.gears(5, 0), x -> x.gears(-1, 1), x -> x.gears(6, 1),
            x -> x.gears(Integer.MIN_VALUE, 0), x -> x.gears(Integer.MAX_VALUE, 0));
    }

    private static void promise18NoneBadState(Due due) {
        due.refuse(Made::busy, -1, x -> x.gears(1, -1), x -> x.gears(1, 2), x -> x.gears(1, Integer.MIN_VALUE),
            x -> x.gears(1, Integer.MAX_VALUE));
        due.refuse(Made::roadless, -3, x -> x.gears(1, 0), x -> x.gears(4, 1));
        // NONE ahead of BAD ahead of STATE
        due.refuse(Made::busy, -1, x -> x.gears(0, 2), x -> x.gears(5, -1));
        due.refuse(Made::roadless, -1, x -> x.gears(0, 2), x -> x.gears(5, -1), x -> x.gears(1, 2));
        due.refuse(Made::roadless, -2, x -> x.gears(0, 0), x -> x.gears(5, 1));
    }

    private static void promise19Bits0To9(Due due) {
        HillRider x = Due.on("piece 1 5 5;store 60");
        int[] seconds = {5, 5, 4, 4, 3, 3, 3, 3, 2, 2};
        for (int effort = 0; effort <= 9; effort++) {
            due.be("by " + effort, x.by(1 << effort), seconds[effort]);
        }
        due.be("by none", x.by(0), 5);
        due.be("by all", x.by(1023), 2);
        due.refuse(Made::busy, -2, y -> y.by(-1), y -> y.by(1024), y -> y.by(1025), y -> y.by(2048),
            y -> y.by(Integer.MIN_VALUE), y -> y.by(Integer.MAX_VALUE));
    }

    private static void promise19ZeroAlways(Due due) {
        HillRider x = Due.on("piece 1 5 5;piece 1 9 9;store 5");
        for (int set = 0; set < 64; set += 2) {
            due.be("by " + set + " as with 0", x.by(set), x.by(set + 1));
        }
        // where nothing else can be 0 is taken
        due.be("by 9 alone", Due.on("piece 1 5 5;store 4").by(512), 5);
        due.be("by none", Due.on("piece 1 5 5;store 4").by(0), 5);
    }

    private static void promise19BadState(Due due) {
        due.refuse(Made::roadless, -3, x -> x.by(0), x -> x.by(1), x -> x.by(1023));
        // BAD ahead of STATE
        due.refuse(Made::roadless, -2, x -> x.by(-1), x -> x.by(1024));
    }
}
