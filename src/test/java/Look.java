import java.util.ArrayList;
import java.util.List;

/** What can be seen of an object. Some looks change it, so each takes one of its own, and few calls. */
final class Look {
    static final int LOOKS = 5;

    private final HillRider x;
    private final List<Long> seen = new ArrayList<>();

    private Look(HillRider x) {
        this.x = x;
    }

    static List<Long> at(HillRider x, int look) {
        Look all = new Look(x);
        switch (look) {
            case 0:
                all.ground();
                all.trace();
                break;
            case 1:
                all.ways();
                all.row();
                break;
            case 2:
                all.add(x.feed('6', 1));
                all.add(x.road());
                all.ground();
                break;
            case 3:
                all.add(x.undo());
                all.ground();
                all.ways();
                break;
            default:
                x.road();
                all.add(Due.road(x, "piece 1 5 5;piece 3 5 5;piece 5 5 5;piece 7 5 5;store 60;bar 3"));
                all.row();
                break;
        }
        return all.seen;
    }

    private void add(long answer) {
        seen.add(answer);
    }

    private void ground() {
        for (int what = 0; what < 6; what++) {
            add(x.count(what));
            add(x.told(what));
        }
        for (int piece = 0; piece < 8; piece++) {
            for (int what = 0; what < 4; what++) {
                add(x.of(piece, what));
            }
        }
        for (int piece = 0; piece < 3; piece++) {
            for (int store = 0; store < 9; store += 4) {
                add(x.rides(piece, 2, store, 0));
                add(x.rides(piece, 9, store, 2));
            }
        }
        add(x.soonest(0, 9, 0));
        add(x.soonest(0, 9, 1));
        add(x.gears(2, 0));
        add(x.by(512));
        add(x.ride(0, 0));
        add(x.mean(0, 0));
    }

    private void trace() {
        for (int i = 0; i < 9; i++) {
            add(x.trace(i));
        }
    }

    private void ways() {
        for (int way = 0; way < 8; way++) {
            for (int k = 0; k < 7; k++) {
                add(x.as(way, k));
            }
            for (int piece = 0; piece < 8; piece++) {
                add(x.line(way, piece, -1));
            }
        }
    }

    private void row() {
        for (int what = 0; what < 4; what++) {
            add(x.judged(what));
        }
        add(x.row(6));
    }
}
