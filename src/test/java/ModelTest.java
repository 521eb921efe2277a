/** Many calls on many objects, each answer compared with the model's. */
public final class ModelTest {
    private static final Due due = new Due();
    private long seed;
    private final HillRider x = new HillRider();
    private final Model model = new Model();

    private ModelTest(long seed) {
        this.seed = seed;
    }

    public static void main(String[] args) {
        for (int run = 1; run <= 500; run++) {
            new ModelTest(run).run(run);
        }
        due.end("ModelTest");
    }

    /** Below n; the same numbers each time. */
    private int any(int n) {
        seed = seed * 6364136223846793005L + 1442695040888963407L;
        return (int) ((seed >>> 33) % n);
    }

    /** Mostly from 0 to top, at times one beyond it at either end. */
    private int near(int top) {
        int chance = any(16);
        return chance == 0 ? -1 : chance == 1 ? top + 1 : any(top + 1);
    }

    private void run(int run) {
        tell(newTape());
        for (int i = 0; i < 45; i++) {
            call(run);
        }
    }

    private void tell(String text) {
        String cut = text.length() > 120 - model.now.tape.length() ? "" : text;
        Due.feed(x, cut);
        for (int i = 0; i < cut.length(); i++) {
            model.feed(cut.charAt(i), 1);
        }
        due.be("road of " + model.now.tape, x.road(), model.road());
    }

    // ---- tapes

    private String newTape() {
        StringBuilder tape = new StringBuilder();
        int pieces = 1 + any(any(3) == 0 ? 8 : 4);
        for (int i = 0; i < pieces; i++) {
            tape.append(i == 0 ? "" : ";").append("piece ").append(1 + any(any(3) == 0 ? 9 : 3));
            tape.append(' ').append(2 + any(7)).append(' ').append(2 + any(6));
        }
        for (int i = any(9); i > 0; i--) {
            String clause = newClause();
            if (tape.length() + 1 + clause.length() <= 120) {
                tape.append(';').append(clause);
            }
        }
        if (any(6) == 0) {
            tape.setCharAt(any(tape.length()), "pbeshk ;0159!&|()<=>r\u00ff".charAt(any(22)));
        } else if (any(6) == 0) {
            tape.setLength(any(tape.length() + 1));
        } else if (any(8) == 0) {
            tape.deleteCharAt(any(tape.length()));
        }
        return tape.toString();
    }

    private String newClause() {
        switch (any(7)) {
            case 0: return "bar " + any(12);
            case 1: return "store " + (any(3) == 0 ? any(100) : any(25));
            case 2: return "back " + any(20);
            case 3: return "heat " + any(12);
            case 4: return "bend " + any(8) + " " + any(60);
            default: return "ease " + any(30) + " " + newE(any(5));
        }
    }

    private String newE(int free) {
        StringBuilder e = new StringBuilder(newFactor(free));
        while (any(3) == 0) {
            e.append(any(2) == 0 ? '&' : '|').append(newFactor(free));
        }
        return e.toString();
    }

    private String newFactor(int free) {
        if (free > 0 && any(2) == 0) {
            return any(2) == 0 ? "!" + newFactor(free - 1) : "(" + newE(free - 1) + ")";
        }
        char letter = "keswr".charAt(any(5));
        return "" + letter + "<=>".charAt(any(3)) + any(letter == 'r' ? 22 : 10);
    }

    // ---- calls

    private void call(int run) {
        int way = near(7);
        int piece = near(Math.max(0, model.now.pieces.size() - 1));
        int store = near(model.now.store);
        String call = "run " + run + ", way " + way + ", piece " + piece + ", store " + store + ": ";
        switch (any(14)) {
            case 0: newWay(call); break;
            case 1: newLine(call, way); break;
            case 2: aPiece(call, piece, store); break;
            case 3: aRide(call, way, piece, store); break;
            case 4: theSoonest(call, piece, store); break;
            case 5: losses(call, way, piece, store); break;
            case 6: aRow(call); break;
            case 7: heat(call, way); break;
            case 8: gears(call); break;
            case 9: wheels(call, way); break;
            case 10: acts(call, way); break;
            case 11: images(call); break;
            case 12: counts(call); break;
            default:
                if (any(3) == 0) {
                    tell(newTape());
                }
                newWay(call);
                break;
        }
    }

    private boolean isWay(int way) {
        return way >= 0 && way < model.now.ways.size();
    }

    private boolean isPiece(int piece) {
        return piece >= 0 && piece < model.now.pieces.size();
    }

    private boolean isStore(int store) {
        return store >= 0 && store <= model.now.store;
    }

    private int stateOr(boolean none, int k, int most) {
        return none ? -1 : k < 1 || k > most ? -2 : model.now.pieces.isEmpty() ? -3 : 0;
    }

    private void newWay(String call) {
        int kind = near(6);
        int v = near(9);
        int number = model.now.ways.size();
        int want = kind < 0 || kind > 6 ? -1 : v < 0 || v > 9 ? -2 : number == 8 ? -4 : number;
        if (want >= 0) {
            model.now.ways.add(new int[] {kind, v});
            model.now.lines.add(new int[] {-1, -1, -1, -1, -1, -1, -1, -1});
        }
        due.be(call + "way(" + kind + ", " + v + ")", x.way(kind, v), want);
    }

    private void newLine(String call, int way) {
        int piece = near(7);
        int effort = any(12) - 2 + any(2);
        int want = !isWay(way) || piece < 0 || piece > 7 ? -1 : effort < -1 || effort > 9 ? -2 : 0;
        if (want == 0 && model.now.ways.get(way)[0] != 5) {
            want = -3;
        }
        if (want == 0) {
            int before = model.now.lines.get(way)[piece];
            model.now.lines.get(way)[piece] = effort;
            want = before < 0 ? -5 : before;
        }
        due.be(call + "line(" + piece + ", " + effort + ")", x.line(way, piece, effort), want);
    }

    private void aPiece(String call, int piece, int store) {
        int effort = near(9);
        for (int what = -1; what <= 4; what++) {
            int[] at = isPiece(piece) ? model.now.pieces.get(piece) : null;
            boolean none = at == null || what < 0;
            int of = none || what > 3 ? -1 : what < 3 ? at[what] : model.now.bends[piece];
            due.be(call + "of", x.of(piece, what), of);
            int rides = none || what > 2 ? -1 : effort < 0 || effort > 9 || !isStore(store) ? -2 : 0;
            if (rides == 0) {
                rides = what == 0 ? model.speed(piece, effort, store)
                    : what == 1 ? model.seconds(piece, effort, store) : model.behind(piece, effort, store);
            }
            due.be(call + "rides " + effort, x.rides(piece, effort, store, what), rides);
        }
    }

    private void aRide(String call, int way, int piece, int store) {
        int want = !isWay(way) || !isPiece(piece) ? -1 : !isStore(store) ? -2 : model.takes(way, piece, store);
        due.be(call + "takes", x.takes(way, piece, store), want);
        int n = model.now.pieces.size();
        int[] ride = isWay(way) && n > 0 ? model.ride(way, model.now.store, 0, 0) : null;
        for (int what = -1; what <= 10 + n; what++) {
            boolean none = !isWay(way) || what < 0 || what > 1 && what < 10 || what >= 10 + n;
            int answer = none ? -1 : ride == null ? -3 : what < 2 ? ride[what] : ride[what - 8];
            due.be(call + "ride " + what, x.ride(way, what), answer);
        }
    }

    private void theSoonest(String call, int piece, int store) {
        int n = model.now.pieces.size();
        int[] best = isPiece(piece) && isStore(store) ? model.soonest(piece, store, 1023) : null;
        for (int what = -1; what <= 10 + n; what++) {
            boolean none = !isPiece(piece) || what < 0 || what > 1 && what < 10 + piece || what >= 10 + n;
            int answer = none ? -1 : best == null ? -2 : what < 2 ? best[what] : best[what - 8];
            due.be(call + "soonest " + what, x.soonest(piece, store, what), answer);
        }
    }

    private void losses(String call, int way, int piece, int store) {
        int price = !isPiece(piece) ? -1 : store < 1 || !isStore(store) ? -2
            : model.soonest(piece, store - 1, 1023)[0] - model.soonest(piece, store, 1023)[0];
        due.be(call + "price", x.price(piece, store), price);
        boolean state = model.now.pieces.isEmpty();
        due.be(call + "loses", x.loses(way), !isWay(way) ? -1 : state ? -3 : model.loses(way));
        due.be(call + "laps", x.laps(way), !isWay(way) ? -10001 : state ? -10002 : model.laps(way));
    }

    private void aRow(String call) {
        for (int i = any(9); i >= 0; i--) {
            int effort = any(8) == 0 ? -2 + any(13) : any(10);
            int size = model.now.row.size();
            int want = effort < -1 || effort > 9 ? -2 : effort >= 0 && size == 8 ? -4 : effort < 0 ? 0 : size + 1;
            if (want == 0) {
                model.now.row.clear();
            } else if (want > 0) {
                model.now.row.add(effort);
            }
            due.be(call + "row " + effort, x.row(effort), want);
        }
        for (int what = -1; what <= 4; what++) {
            due.be(call + "judged " + what, x.judged(what), what < 0 || what > 3 ? -1 : model.judged(what));
        }
    }

    private void heat(String call, int way) {
        int t = any(10) == 0 ? any(3) * 5000 - any(2) : isWay(way) && !model.now.pieces.isEmpty()
            ? model.ride(way, model.now.store, 0, 0)[0] + any(20) - 4 : 0;
        boolean none = !isWay(way) || model.now.pieces.isEmpty();
        if (!none && model.now.ways.get(way)[0] == 3 && model.now.pieces.size() > 5) {
            return; // the model is too slow there
        }
        long[] mean = none ? null : model.chances(way, -1);
        long[] sure = none || t < 0 || t > 9999 ? null : model.chances(way, t);
        for (int part = -1; part <= 2; part++) {
            boolean no = part < 0 || part > 1;
            due.be(call + "mean " + part, x.mean(way, part), no || mean == null ? HillRider.NO : mean[part]);
            due.be(call + "sure " + t, x.sure(way, t, part), no || sure == null ? HillRider.NO : sure[part]);
        }
    }

    private void gears(String call) {
        int k = any(6);
        boolean slow = model.now.pieces.size() > 3 && k > 2;
        for (int what = -1; what <= 2 && !slow; what++) {
            int want = stateOr(what < 0 || what > 1, k, 4);
            due.be(call + "gears " + k, x.gears(k, what), want == 0 ? model.gears(k, what) : want);
        }
        int set = any(12) == 0 ? any(2) * 1025 - 1 : any(1024);
        int want = set < 0 || set > 1023 ? -2 : model.now.pieces.isEmpty() ? -3 : 0;
        due.be(call + "by " + set, x.by(set), want == 0 ? model.soonest(0, model.now.store, set)[0] : want);
    }

    private void wheels(String call, int way) {
        int k = any(5) == 0 ? any(10) : any(4);
        for (int what = -1; what <= 2; what++) {
            int want = stateOr(!isWay(way) || what < 0 || what > 1, k, 8);
            due.be(call + "wheel " + k, x.wheel(way, k, what), want == 0 ? model.wheel(way, k, what) : want);
        }
    }

    private void acts(String call, int way) {
        int act = near(2);
        int number = any(3) == 0 ? any(Integer.MAX_VALUE) * 2 : any(50);
        due.be(call + "act " + act, x.act(way, act, number), model.act(way, act, number));
        int kind = near(6);
        due.be(call + "as", x.as(way, kind), !isWay(way) || kind < 0 || kind > 6 ? -1 : model.as(way, kind));
    }

    private void images(String call) {
        if (any(2) == 0) {
            model.image();
            due.be(call + "image", x.image(), model.now.ways.size());
        } else {
            due.be(call + "undo", x.undo(), model.undo() ? model.now.ways.size() : -3);
        }
    }

    private void counts(String call) {
        Model.State now = model.now;
        int[] counts = {now.pieces.size(), now.ways.size(), now.roads, now.row.size(), now.tape.length(), model.trace.size()};
        int[] told = {now.pieces.size(), now.bar, now.store, now.back, now.heat};
        for (int what = -1; what <= 6; what++) {
            due.be(call + "count " + what, x.count(what), what < 0 || what > 5 ? -1 : counts[what]);
            due.be(call + "told " + what, x.told(what), what < 0 || what > 4 ? -1 : told[what]);
        }
        for (int i = -1; i <= 8; i++) {
            due.be(call + "trace " + i, x.trace(i), i < 0 || i >= model.trace.size() ? -1 : model.trace.get(i));
        }
        if (any(2) == 0) {
            long w = (long) any(Integer.MAX_VALUE) << 32 | any(Integer.MAX_VALUE);
            int n = near(8);
            due.be(call + "feed", x.feed(w, n), model.feed(w, n));
        }
    }
}
