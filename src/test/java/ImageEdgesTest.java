import java.io.IOException;

/** Promises 25 to 27, the refusals together, and what all 512 calls answer. */
public final class ImageEdgesTest {
    /** Each as wrong as it can be; the first that is told is due. */
    private static final Due.Call[] NONES = {x -> x.of(3, 4), x -> x.told(5), x -> x.rides(3, 10, 19, 3), x -> x.way(7, 10),
        x -> x.line(7, 8, 10), x -> x.takes(7, 3, 19), x -> x.ride(7, 2), x -> x.soonest(3, 19, 2), x -> x.price(3, 0),
        x -> x.loses(7), x -> x.judged(4), x -> x.gears(5, 2), x -> x.wheel(7, 9, 2), x -> x.trace(7), x -> x.as(7, 7),
        x -> x.count(6)};
    private static final Due.Call[] BADS = {x -> x.feed(0, 9), x -> x.rides(0, 10, 19, 0), x -> x.way(0, 10), x -> x.line(0, 0, 10),
        x -> x.takes(0, 0, 19), x -> x.soonest(0, 19, 0), x -> x.price(0, 0), x -> x.row(10), x -> x.gears(5, 0), x -> x.by(1024),
        x -> x.wheel(0, 9, 0)};

    private ImageEdgesTest() {
    }

    public static void main(String[] args) throws IOException {
        Edges edges = new Edges("ImageEdgesTest");
        edges.test("Promise 25", "THE IMAGE is taken: how many WAYS there are.", ImageEdgesTest::promise25HowManyWays);
        edges.test("Promise 26", "All is as THE IMAGE: how many WAYS.", ImageEdgesTest::promise26HowManyWays);
        edges.test("Promise 26", "All is as THE IMAGE: how many WAYS.", ImageEdgesTest::promise26AgainAndAgain);
        edges.test("Promise 26", "STATE: there is none.", ImageEdgesTest::promise26State);
        edges.test("==== 3", "THE IMAGE: all that there is", ImageEdgesTest::terms3AllThatThereIs);
        edges.test("==== 3", "THE IMAGE: all that there is", ImageEdgesTest::terms3FromFullAndToFull);
        edges.test("==== 3", "(but THE IMAGE and THE TRACE)", ImageEdgesTest::terms3ButTheImageAndTheTrace);
        edges.test("Promise 27", "0 PIECES, 1 WAYS, 2 ROADS, 3 EFFORTS of the ROW, 4 bytes of THE TAPE", ImageEdgesTest::promise27Counts);
        edges.test("Promise 27", "5 bodies that ran in the latest act() (all, kept or not). NONE.", ImageEdgesTest::promise27None);
        edges.test("==== 4", "REFUSALS, of several the first one told: NONE there is no such PIECE, WAY, KIND, what, part, i; "
            + "BAD a number is not as told; STATE there are no PIECES, or as told; FULL.", ImageEdgesTest::terms4TheFirstOneTold);
        edges.test("==== 4", "They change nothing.", ImageEdgesTest::terms4TheyChangeNothing);
        edges.test("==== 4", "The constants: `NO = Long.MIN_VALUE`: There is no such number.", ImageEdgesTest::terms4Constants);
        edges.test("What it is", "An object is used for at most 512 calls after it has been made", ImageEdgesTest::whatItIs512Calls);
        edges.end();
    }

    private static void promise25HowManyWays(Due due) {
        HillRider x = new HillRider();
        for (int ways = 0; ways <= 8; ways++) {
            due.be("image of " + ways, x.image(), ways);
            due.be("a way more", x.way(ways % 7, ways), ways < 8 ? ways : -4);
        }
        due.changeNothing(ImageEdgesTest::imaged, "an image of the same", y -> y.image());
    }

    private static void promise26HowManyWays(Due due) {
        for (int ways = 0; ways <= 8; ways++) {
            HillRider x = new HillRider();
            for (int i = 0; i < ways; i++) {
                x.way(0, i);
            }
            x.image();
            int more = x.way(5, 5);
            due.be("a way more", more, ways < 8 ? ways : -4);
            due.be("undo", x.undo(), ways);
            due.be("count(1)", x.count(1), ways);
            due.be("there is no such way", x.as(ways, 0), -1);
        }
    }

    private static void promise26AgainAndAgain(Due due) {
        HillRider x = Due.on("piece 1 5 5");
        x.way(0, 0);
        x.image();
        for (int i = 0; i < 5; i++) {
            x.way(1, i);
            x.row(i);
            due.be("another road", Due.road(x, "piece 2 5 5"), 1);
            due.be("undo", x.undo(), 1);
            due.be("length", x.of(0, 0), 1);
            due.be("row", x.count(3), 0);
            due.be("once more", x.undo(), 1);
        }
        x.way(2, 2);
        due.be("a second image", x.image(), 2);
        x.way(3, 3);
        due.be("as the second", x.undo(), 2);
        due.be("its v", x.as(1, 2), 2);
    }

    private static void promise26State(Due due) {
        due.refuse(HillRider::new, -3, x -> x.undo());
        due.refuse(Made::roadless, -3, x -> x.undo());
        due.refuse(Made::full, -3, x -> x.undo());
        HillRider x = new HillRider();
        due.be("none", x.undo(), -3);
        due.be("an image of nothing", x.image(), 0);
        due.be("is one", x.undo(), 0);
    }

    private static HillRider imaged() {
        HillRider x = Made.busy();
        x.image();
        return x;
    }

    private static void looksAlike(Due due, String words, Due.Start got, Due.Start want) {
        for (int look = 0; look < Look.LOOKS; look++) {
            due.be(words + ", look " + look, Look.at(got.make(), look).equals(Look.at(want.make(), look)) ? 1 : 0, 1);
        }
    }

    private static HillRider undone(Due.Call change) {
        HillRider x = imaged();
        change.on(x);
        x.undo();
        return x;
    }

    private static void terms3AllThatThereIs(Due due) {
        Due.Call[] changes = {x -> x.feed('9', 1), x -> x.road(), x -> Due.road(x, "4"),
            x -> Due.road(x, "4;piece 9 9 9;bend 0 1;store 3;back 9;heat 9;ease 9 k=0"), x -> x.way(5, 9), x -> x.line(5, 0, 1),
            x -> x.line(5, 0, -1), x -> x.line(5, 3, 3), x -> x.row(9), x -> x.row(-1), x -> x.row(-1) + x.row(8) + x.row(8) + x.row(8),
            x -> x.road() + x.feed('p', 1) + x.feed('q', 1), x -> x.way(5, 1) + x.line(7, 0, 9) + x.line(7, 2, 8)};
        for (int i = 0; i < changes.length; i++) {
            Due.Call change = changes[i];
            looksAlike(due, "change " + i, () -> undone(change), ImageEdgesTest::imaged);
        }
        looksAlike(due, "all of them", () -> undone(x -> {
            for (Due.Call change : changes) {
                change.on(x);
            }
            return 0;
        }), ImageEdgesTest::imaged);
        // the image itself stays as it was taken
        HillRider told = imaged();
        told.undo();
        told.line(5, 0, 1);
        told.undo();
        due.be("line behind two undos", told.line(5, 0, 1), 7);
        // what was worked out on another road counts no more
        looksAlike(due, "what is worked out", () -> undone(x -> Due.road(x, "4;piece 9 9 9;store 9") + x.soonest(0, 9, 0)
            + x.gears(4, 0) + x.ride(3, 0)), ImageEdgesTest::imaged);
    }

    private static void terms3FromFullAndToFull(Due due) {
        looksAlike(due, "full again", () -> {
            HillRider x = Made.full();
            x.image();
            x.row(-1);
            x.row(3);
            x.undo();
            return x;
        }, () -> {
            HillRider x = Made.full();
            x.image();
            return x;
        });
        HillRider x = new HillRider();
        x.image();
        for (int i = 0; i < 8; i++) {
            x.way(0, i);
            x.row(i);
            Due.road(x, "piece 1 5 5");
        }
        for (int i = 0; i < 15; i++) {
            x.feed(-1, 8);
        }
        due.be("roads are full", x.count(2), 5);
        x.undo();
        due.be("the first byte again", x.feed('x', 1), 1);
        due.be("a fault again", x.road(), -10);
        due.be("the first road again", Due.road(x, "piece 1 5 5"), 0);
        due.be("the first way again", x.way(6, 0), 0);
        due.be("the first effort again", x.row(4), 1);
    }

    private static void terms3ButTheImageAndTheTrace(Due due) {
        HillRider x = Made.roadless();
        x.act(0, 2, 1);
        x.image();
        x.act(6, 2, 1);
        x.undo();
        int[] bodies = {31, 3, 2, 1};
        due.be("as many as in the latest", x.count(5), 4);
        for (int i = 0; i < 4; i++) {
            due.be("trace(" + i + ")", x.trace(i), bodies[i]);
        }
        due.be("no fifth", x.trace(4), -1);
        x.act(-1, 0, 0);
        x.undo();
        due.be("none stays none", x.count(5), 0);
        due.be("no first", x.trace(0), -1);
        due.be("the image stays", x.undo(), 7);
    }

    private static void promise27Counts(Due due) {
        int[] least = new int[6];
        int[] most = {1, 8, 5, 8, 120, 7};
        int[] some = {3, 7, 2, 3, 16, 7};
        for (int what = 0; what < 6; what++) {
            due.be("count(" + what + ") of a new one", new HillRider().count(what), least[what]);
            due.be("count(" + what + ") of a full one", Made.full().count(what), most[what]);
            due.be("count(" + what + ") of another", Made.busy().count(what), some[what]);
        }
        due.be("the most PIECES", Made.eight("piece 1 5 5", "").count(0), 8);
    }

    private static void promise27None(Due due) {
        due.refuse(Made::busy, -1, x -> x.count(-1), x -> x.count(6), x -> x.count(Integer.MIN_VALUE), x -> x.count(Integer.MAX_VALUE));
        HillRider x = Made.busy();
        due.be("bodies", x.count(5), 7);
        x.act(0, 0, 0);
        due.be("bodies of the latest", x.count(5), 1);
        x.act(0, 3, 0);
        due.be("bodies of none", x.count(5), 0);
    }

    private static void terms4TheFirstOneTold(Due due) {
        due.refuse(Made::busy, -1, NONES);
        due.refuse(Made::busy, -2, BADS);
        due.refuse(Made::full, -2, x -> x.feed(0, 0), x -> x.way(0, 10), x -> x.row(10), x -> x.line(0, 0, 10));
        due.refuse(Made::full, -4, x -> x.feed(0, 1), x -> x.way(0, 9), x -> x.row(9), x -> x.road());
        due.refuse(Made::roadless, -1, x -> x.ride(7, 0), x -> x.loses(7), x -> x.gears(5, 2), x -> x.wheel(7, 9, 0));
        due.refuse(Made::roadless, -2, x -> x.gears(5, 0), x -> x.by(1024), x -> x.wheel(0, 9, 0));
        due.refuse(Made::roadless, -3, x -> x.ride(0, 0), x -> x.loses(0), x -> x.gears(4, 0), x -> x.by(0), x -> x.wheel(0, 8, 0));
    }

    private static void terms4TheyChangeNothing(Due due) {
        due.changeNothing(Made::busy, "all refusals together", x -> {
            for (Due.Call call : NONES) {
                call.on(x);
            }
            for (Due.Call call : BADS) {
                call.on(x);
            }
            return x.line(0, 0, 0) + x.mean(7, 0) + x.sure(0, -1, 0) + x.laps(7);
        });
        due.changeNothing(Made::full, "all that is full", x -> x.feed(0, 1) + x.way(0, 0) + x.row(0) + x.road() + x.undo());
        // nor does what only asks
        due.changeNothing(Made::busy, "all questions together", x -> x.of(0, 0) + x.told(0) + x.rides(0, 9, 0, 2) + x.takes(3, 0, 0)
            + x.ride(3, 0) + x.soonest(0, 0, 1) + x.price(0, 1) + x.loses(0) + x.judged(2) + x.mean(3, 0) + x.sure(3, 50, 0)
            + x.gears(4, 0) + x.by(0) + x.wheel(3, 2, 0) + x.laps(3) + x.trace(0) + x.as(0, 0) + x.count(0));
    }

    private static void terms4Constants(Due due) {
        due.be("NO", HillRider.NO, Long.MIN_VALUE);
        due.be("NONE", HillRider.NONE, -1);
        due.be("BAD", HillRider.BAD, -2);
        due.be("STATE", HillRider.STATE, -3);
        due.be("FULL", HillRider.FULL, -4);
    }

    private static void whatItIs512Calls(Due due) {
        for (int last = 0; last < 4; last++) {
            HillRider x = new HillRider();
            String road = "piece 2 5 5;piece 1 9 9;heat 3;ease 3 r<5";
            for (int i = 0; i < 40; i++) {
                x.feed(road.charAt(i), 1);
            }
            x.feed(road.charAt(40), 1);
            due.be("road", x.road(), 0);
            due.be("way", x.way(3, 0), 0);
            due.be("image", x.image(), 1);
            long fresh = answer(x, last);
            // 45 calls so far; the 512th is asked last
            for (int i = 46; i < 512; i += 2) {
                due.be("a row", x.row(i % 10), 1);
                due.be("undone", x.undo(), 1);
            }
            due.be("the 512th call", answer(x, last), fresh);
        }
    }

    private static long answer(HillRider x, int question) {
        switch (question) {
            case 0:
                return x.gears(4, 1);
            case 1:
                return x.mean(0, 0);
            case 2:
                return x.act(0, 2, 1);
            default:
                return x.ride(0, 0);
        }
    }
}
