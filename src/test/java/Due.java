/** Compares answers with those that are due, and counts the wrong ones. */
final class Due {
    private int wrong = 0;
    private int asked = 0;

    void be(String call, long got, long want) {
        asked++;
        if (got != want) {
            wrong++;
            if (wrong <= 50) {
                System.out.println(call + " answered " + got + ", due is " + want);
            }
        }
    }

    /** Feeds a text, eight bytes at a time. */
    static void feed(HillRider x, String text) {
        for (int from = 0; from < text.length(); from += 8) {
            int n = Math.min(8, text.length() - from);
            long w = 0;
            for (int i = 0; i < n; i++) {
                w = w << 8 | text.charAt(from + i) & 255;
            }
            x.feed(w, n);
        }
    }

    static int road(HillRider x, String text) {
        feed(x, text);
        return x.road();
    }

    static HillRider on(String text) {
        HillRider x = new HillRider();
        if (road(x, text) != 0) {
            System.out.println("no road: " + text);
            System.exit(1);
        }
        return x;
    }

    void end(String test) {
        System.out.println(test + ": " + asked + " answers, " + wrong + " not as due");
        if (wrong != 0) {
            System.exit(1);
        }
    }
}
