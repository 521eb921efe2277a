import java.util.List;

/** Compares answers with those that are due, and counts the wrong ones. */
final class Due {
    private String about = "";
    private int wrong = 0;
    private int asked = 0;

    /** Makes an object; each one that it makes has been through the same calls. */
    interface Start {
        HillRider make();
    }

    interface Call {
        long on(HillRider x);
    }

    /** What all answers from here on are about. */
    void about(String words) {
        about = words;
    }

    int asked() {
        return asked;
    }

    void be(String call, long got, long want) {
        asked++;
        if (got != want) {
            wrong(call + " answered " + got + ", due is " + want);
        }
    }

    void wrong(String words) {
        wrong++;
        if (wrong <= 50) {
            System.out.println(about + words);
        }
    }

    /** Each of the calls is refused so, and an object that refused it then looks as one that was never asked. */
    void refuse(Start start, long want, Call... calls) {
        for (int i = 0; i < calls.length; i++) {
            String call = "call " + (i + 1) + " of " + calls.length + " that answer " + want;
            be(call, calls[i].on(start.make()), want);
            changeNothing(start, call, calls[i]);
        }
    }

    void changeNothing(Start start, String words, Call call) {
        for (int look = 0; look < Look.LOOKS; look++) {
            HillRider asked = start.make();
            call.on(asked);
            List<Long> got = Look.at(asked, look);
            List<Long> want = Look.at(start.make(), look);
            this.asked++;
            if (!got.equals(want)) {
                wrong(words + " changed something in look " + look + ": " + firstDifference(got, want));
            }
        }
    }

    private static String firstDifference(List<Long> got, List<Long> want) {
        for (int i = 0; i < got.size() && i < want.size(); i++) {
            if (!got.get(i).equals(want.get(i))) {
                return "its answer " + (i + 1) + " was " + want.get(i) + " and is " + got.get(i);
            }
        }
        return "it has " + got.size() + " answers, and had " + want.size();
    }

    /** Feeds a text, eight bytes at a time. */
    static void feed(HillRider x, String text) {
        for (int from = 0; from < text.length(); from += 8) {
            int n = Math.min(8, text.length() - from);
            long w = 0;
            for (int i = 0; i < n; i++) {
                w = w << 8 | text.charAt(from + i) & 255;
            }
            x.feed(w, n);
        }
    }

    static int road(HillRider x, String text) {
        feed(x, text);
        return x.road();
    }

    static HillRider on(String text) {
        HillRider x = new HillRider();
        if (road(x, text) != 0) {
            System.out.println("no road: " + text);
            System.exit(1);
        }
        return x;
    }

    void end(String test) {
        System.out.println(test + ": " + asked + " answers, " + wrong + " not as due");
        if (wrong != 0) {
            System.exit(1);
        }
    }
}
