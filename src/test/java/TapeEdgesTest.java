import java.io.IOException;

/** Promises 1 and 2: what a new object has not, and how many bytes there may be. */
public final class TapeEdgesTest {
    private TapeEdgesTest() {
    }

    public static void main(String[] args) throws IOException {
        Edges edges = new Edges("TapeEdgesTest");
        edges.test("Promise 1", "No ROAD, no WAYS.", TapeEdgesTest::promise1NoRoadNoWays);
        edges.test("Promise 2", "The n lowest bytes of w, the highest first", TapeEdgesTest::promise2LowestBytesHighestFirst);
        edges.test("Promise 2", "come behind THE TAPE's: how many it has.", TapeEdgesTest::promise2HowManyItHas);
        edges.test("Promise 2", "BAD: n not 1 .. 8", TapeEdgesTest::promise2BadWhenNIsNot1To8);
        edges.test("Promise 2", "BAD: n not 1 .. 8; FULL.", TapeEdgesTest::promise2BadAheadOfFull);
        edges.test("==== 1", "THE TAPE (bytes, 120 at most)", TapeEdgesTest::terms1TapeOf120BytesAtMost);
        edges.test("==== 1", "THE TAPE (bytes, 120 at most)", TapeEdgesTest::terms1TapeOfBytes);
        edges.end();
    }

    private static void promise1NoRoadNoWays(Due due) {
        for (int what = 0; what <= 5; what++) {
            due.be("count(" + what + ")", new HillRider().count(what), 0);
        }
        due.be("PIECES", new HillRider().told(0), 0);
        due.refuse(HillRider::new, -1, x -> x.of(0, 0), x -> x.rides(0, 0, 0, 0), x -> x.soonest(0, 0, 0), x -> x.price(0, 1),
            x -> x.takes(0, 0, 0), x -> x.ride(0, 0), x -> x.loses(0), x -> x.wheel(0, 1, 0), x -> x.line(0, 0, 0),
            x -> x.as(0, 0), x -> x.trace(0));
        due.refuse(HillRider::new, -3, x -> x.undo(), x -> x.gears(1, 0), x -> x.by(1));
        due.refuse(HillRider::new, HillRider.NO, x -> x.mean(0, 0), x -> x.sure(0, 0, 0));
        due.refuse(HillRider::new, -10001, x -> x.laps(0));
        due.be("act(0, 0, 5)", new HillRider().act(0, 0, 5), 0);
        due.be("the first road's number", Due.road(new HillRider(), "piece 1 5 5"), 0);
        due.be("the first way's number", new HillRider().way(0, 0), 0);
        due.be("the first effort of the row", new HillRider().row(0), 1);
        due.be("the first byte", new HillRider().feed(0, 1), 1);
    }

    private static void promise2LowestBytesHighestFirst(Due due) {
        String text = "piece 1 5 5;bar 7";
        for (int n = 1; n <= 8; n++) {
            HillRider x = new HillRider();
            for (int from = 0; from < text.length(); from += n) {
                int size = Math.min(n, text.length() - from);
                // what stands above the lowest bytes does not come
                long w = -1;
                for (int i = 0; i < size; i++) {
                    w = w << 8 | text.charAt(from + i);
                }
                due.be("feed of " + size, x.feed(w, size), from + size);
            }
            due.be("road by " + n, x.road(), 0);
            due.be("bar by " + n, x.told(1), 7);
        }
    }

    private static void promise2HowManyItHas(Due due) {
        HillRider x = new HillRider();
        int bytes = 0;
        for (int n = 1; n <= 8; n++) {
            bytes += n;
            due.be("feed of " + n, x.feed(0, n), bytes);
            due.be("count(4)", x.count(4), bytes);
        }
        due.be("behind what busy() has", Made.busy().feed('6', 1), 17);
    }

    private static void promise2BadWhenNIsNot1To8(Due due) {
        due.be("feed of 1", new HillRider().feed(1, 1), 1);
        due.be("feed of 8", new HillRider().feed(1, 8), 8);
        due.refuse(Made::busy, -2, x -> x.feed(1, 0), x -> x.feed(1, 9), x -> x.feed(1, -1), x -> x.feed(1, 16),
            x -> x.feed(1, Integer.MIN_VALUE), x -> x.feed(1, Integer.MAX_VALUE));
    }

    private static void promise2BadAheadOfFull(Due due) {
        due.refuse(Made::full, -2, x -> x.feed(1, 0), x -> x.feed(1, 9), x -> x.feed(1, -1));
        due.refuse(Made::full, -4, x -> x.feed(1, 1), x -> x.feed(1, 8));
    }

    /** A road but for its last n bytes, and 120 with them. */
    private static HillRider butFor(int n) {
        String road = Made.pieces(8, "piece 1 5 5") + ";bend 0 99;store 10;bar 6";
        HillRider x = new HillRider();
        Due.feed(x, road.substring(0, 120 - n));
        return x;
    }

    private static void terms1TapeOf120BytesAtMost(Due due) {
        for (int n = 1; n <= 8; n++) {
            int free = n;
            due.be("to 120 by " + n, butFor(n).feed(0, n), 120);
            for (int more = free + 1; more <= 8; more++) {
                int size = more;
                due.refuse(() -> butFor(free), -4, x -> x.feed(0, size));
            }
        }
        due.refuse(() -> butFor(0), -4, x -> x.feed(0, 1), x -> x.feed(0, 8));
        due.be("a road of 120", butFor(0).road(), 0);
        HillRider x = butFor(1);
        due.be("feed of 2", x.feed(0, 2), -4);
        due.be("feed of 1", x.feed('7', 1), 120);
        due.be("road", x.road(), 0);
        due.be("bar", x.told(1), 7);
    }

    private static void terms1TapeOfBytes(Due due) {
        // a byte that is like a letter but for its highest bit, and one whose neighbour's bits are set
        due.be("0xf0 is no p", Due.road(new HillRider(), "\u00f0iece 1 5 5"), -10);
        HillRider x = new HillRider();
        x.feed(0x1234500L | 'p', 1);
        due.be("its lowest 8 bits", Due.road(x, "iece 1 5 5"), 0);
    }
}
