import java.math.BigInteger;
import java.util.ArrayList;
import java.util.List;
import java.util.regex.Matcher;
import java.util.regex.Pattern;

/** The document once more, written for shortness, to be compared with the class: slow, and with all of Java. */
final class Model {
    private static final Pattern ROAD = Pattern.compile("(?:" + clause() + ")(?:;(?:" + clause() + ")){0,13}");

    final State now = new State();
    private State kept = null;

    static final class State {
        StringBuilder tape = new StringBuilder();
        int roads = 0;
        List<int[]> pieces = new ArrayList<>();
        List<String> eases = new ArrayList<>();
        int[] bends = new int[10];
        int bar = 4;
        int store = 20;
        int back = 5;
        int heat = 0;
        List<int[]> ways = new ArrayList<>();
        List<int[]> lines = new ArrayList<>();
        List<Integer> row = new ArrayList<>();

        void set(State from) {
            tape = new StringBuilder(from.tape);
            roads = from.roads;
            pieces = from.pieces;
            eases = from.eases;
            bends = from.bends;
            bar = from.bar;
            store = from.store;
            back = from.back;
            heat = from.heat;
            ways = new ArrayList<>(from.ways);
            lines = new ArrayList<>();
            for (int[] line : from.lines) {
                lines.add(line.clone());
            }
            row = new ArrayList<>(from.row);
        }
    }

    private static String factor(int free) {
        String test = "[keswr][<=>](?:0|[1-9][0-9]?)";
        return free == 0 ? test : "(?:" + test + "|!" + factor(free - 1) + "|\\(" + any(free - 1) + "\\))";
    }

    private static String any(int free) {
        return factor(free) + "(?:[&|]" + factor(free) + ")*";
    }

    private static String clause() {
        String n = "(?:0|[1-9][0-9]?)";
        return "piece [1-9] [0-9] [0-9]|bend [0-9] " + n + "|ease " + n + " " + any(5) + "|bar " + n + "|store " + n
            + "|back " + n + "|heat " + n;
    }

    /** By every prefix: can a road still begin so? */
    static int fault(String text) {
        int pieces = 0;
        for (int i = 0; i < text.length(); i++) {
            Matcher matcher = ROAD.matcher(text.substring(0, i + 1));
            boolean goesOn = matcher.matches() || matcher.hitEnd();
            if (text.charAt(i) == 'p') {
                pieces++;
            }
            if (!goesOn || pieces > 8) {
                return i;
            }
        }
        return ROAD.matcher(text).matches() && pieces > 0 ? -1 : text.length();
    }

    int feed(long w, int n) {
        if (n < 1 || n > 8) {
            return -2;
        }
        if (now.tape.length() + n > 120) {
            return -4;
        }
        for (int i = n - 1; i >= 0; i--) {
            now.tape.append((char) (w >> 8 * i & 255));
        }
        return now.tape.length();
    }

    int road() {
        if (now.roads == 5) {
            return -4;
        }
        String text = now.tape.toString();
        now.tape.setLength(0);
        int fault = fault(text);
        if (fault >= 0) {
            return -10 - fault;
        }
        now.pieces = new ArrayList<>();
        now.eases = new ArrayList<>();
        now.bends = new int[] {99, 99, 99, 99, 99, 99, 99, 99, 99, 99};
        now.bar = 4;
        now.store = 20;
        now.back = 5;
        now.heat = 0;
        for (String clause : text.split(";")) {
            take(clause.split(" "));
        }
        return now.roads++;
    }

    private void take(String[] parts) {
        if (parts[0].equals("ease")) {
            now.eases.add(parts[1] + " " + parts[2]);
            return;
        }
        int[] n = new int[parts.length];
        for (int i = 1; i < parts.length; i++) {
            n[i] = Integer.parseInt(parts[i]);
        }
        switch (parts[0]) {
            case "piece": now.pieces.add(new int[] {n[1], n[2], n[3]}); break;
            case "bend": now.bends[n[1]] = n[2] == 0 ? 1 : n[2]; break;
            case "bar": now.bar = Math.min(9, n[1]); break;
            case "store": now.store = Math.min(60, n[1]); break;
            case "back": now.back = n[1]; break;
            default: now.heat = Math.min(10, n[1]); break;
        }
    }

    // ---- one piece

    private static int cut(String e, char sign) {
        int open = 0;
        for (int i = 0; i < e.length(); i++) {
            char c = e.charAt(i);
            open += c == '(' ? 1 : c == ')' ? -1 : 0;
            if (open == 0 && c == sign) {
                return i;
            }
        }
        return -1;
    }

    private boolean holds(String e, int piece, int effort, int ahead) {
        int or = cut(e, '|');
        if (or >= 0) {
            return holds(e.substring(0, or), piece, effort, ahead) | holds(e.substring(or + 1), piece, effort, ahead);
        }
        int and = cut(e, '&');
        if (and >= 0) {
            return holds(e.substring(0, and), piece, effort, ahead) & holds(e.substring(and + 1), piece, effort, ahead);
        }
        if (e.charAt(0) == '!') {
            return !holds(e.substring(1), piece, effort, ahead);
        }
        if (e.charAt(0) == '(') {
            return holds(e.substring(1, e.length() - 1), piece, effort, ahead);
        }
        int[] values = {piece, effort, now.pieces.get(piece)[1], now.pieces.get(piece)[2], ahead};
        int value = values["keswr".indexOf(e.charAt(0))];
        int number = Integer.parseInt(e.substring(2));
        return Integer.signum(Integer.compare(value, number)) == "<=>".indexOf(e.charAt(1)) - 1;
    }

    int speed(int piece, int effort, int ahead) {
        int[] at = now.pieces.get(piece);
        int speed = 20 + effort * 4 - (at[1] - 5) * 5 - (at[2] - 5) * 2;
        for (String ease : now.eases) {
            String[] parts = ease.split(" ");
            speed -= holds(parts[1], piece, effort, ahead) ? Integer.parseInt(parts[0]) : 0;
        }
        return Math.max(1, Math.min(now.bends[piece], speed));
    }

    int seconds(int piece, int effort, int ahead) {
        int speed = speed(piece, effort, ahead);
        int all = 100 * now.pieces.get(piece)[0];
        return all / speed + (all % speed == 0 ? 0 : 1);
    }

    int behind(int piece, int effort, int ahead) {
        int length = now.pieces.get(piece)[0];
        if (effort > now.bar) {
            int rest = ahead - length * (effort - now.bar);
            return rest < 0 ? -5 : rest;
        }
        return Math.min(now.store, ahead + (length * (now.bar - effort) * now.back) / 10);
    }

    // ---- the soonest, forward: by each store behind a piece the fewest seconds and the first row

    int[] soonest(int from, int store, int set) {
        int n = now.pieces.size();
        int[][] here = new int[61][];
        here[store] = new int[2 + n];
        for (int piece = from; piece < n; piece++) {
            int[][] then = new int[61][];
            for (int ahead = 0; ahead <= now.store; ahead++) {
                for (int effort = 0; here[ahead] != null && effort < 10; effort++) {
                    int behind = behind(piece, effort, ahead);
                    if (behind < 0 || effort > 0 && (set >> effort & 1) == 0) {
                        continue;
                    }
                    int[] row = here[ahead].clone();
                    row[0] += seconds(piece, effort, ahead);
                    row[1] = behind;
                    row[2 + piece] = effort;
                    if (then[behind] == null || better(row, then[behind])) {
                        then[behind] = row;
                    }
                }
            }
            here = then;
        }
        int[] best = null;
        for (int[] row : here) {
            if (row != null && (best == null || better(row, best))) {
                best = row;
            }
        }
        return best;
    }

    private static boolean better(int[] a, int[] b) {
        if (a[0] != b[0]) {
            return a[0] < b[0];
        }
        if (a[1] != b[1]) {
            return a[1] > b[1];
        }
        for (int i = 2; i < a.length; i++) {
            if (a[i] != b[i]) {
                return a[i] < b[i];
            }
        }
        return false;
    }

    private int soon(int from, int store) {
        return from == now.pieces.size() ? 0 : soonest(from, store, 1023)[0];
    }

    // ---- ways

    private int wants(int way, int piece, int ahead) {
        int kind = now.ways.get(way)[0];
        int v = now.ways.get(way)[1];
        int n = now.pieces.size();
        int[] at = now.pieces.get(piece);
        int sloped = now.bar + at[1] - 5 + (at[2] > 5 ? 1 : 0);
        switch (kind) {
            case 0: return now.bar;
            case 1: return v;
            case 2: return sloped;
            case 3: return soonest(piece, ahead, 1023)[2 + piece];
            case 4: return ahead * n < now.store * (n - piece) ? now.bar : v;
            case 5: return now.lines.get(way)[piece] < 0 ? sloped : now.lines.get(way)[piece];
            default: return now.bar + (piece < v ? 0 : 2);
        }
    }

    int takes(int way, int piece, int ahead) {
        int effort = Math.max(0, Math.min(9, wants(way, piece, ahead)));
        while (behind(piece, effort, ahead) < 0) {
            effort--;
        }
        return effort;
    }

    /** Seconds, the store at the end, efforts. */
    int[] ride(int way, int store, int wheelFrom, int wheels) {
        int n = now.pieces.size();
        int[] all = new int[2 + n];
        all[1] = store;
        for (int piece = 0; piece < n; piece++) {
            int effort = takes(way, piece, all[1]);
            all[0] += seconds(piece, effort, all[1]);
            boolean wheel = wheelFrom <= piece && piece < wheelFrom + wheels;
            all[1] = behind(piece, wheel ? Math.max(effort - 2, 0) : effort, all[1]);
            all[2 + piece] = effort;
        }
        return all;
    }

    int loses(int way) {
        return ride(way, now.store, 0, 0)[0] - soon(0, now.store);
    }

    int laps(int way) {
        int[] first = ride(way, now.store, 0, 0);
        return ride(way, first[1], 0, 0)[0] - first[0];
    }

    int wheel(int way, int k, int what) {
        int without = ride(way, now.store, 0, 0)[0];
        int best = -1;
        for (int first = 0; first + k <= now.pieces.size(); first++) {
            if (best < 0 || ride(way, now.store, first, k)[0] < ride(way, now.store, best, k)[0]) {
                best = first;
            }
        }
        return best < 0 ? -5 : what == 0 ? best : without - ride(way, now.store, best, k)[0];
    }

    int judged(int what) {
        int first = -5;
        int empty = -5;
        int lost = -5;
        int much = 0;
        int ahead = now.store;
        for (int piece = 0; piece < Math.min(now.row.size(), now.pieces.size()); piece++) {
            int effort = now.row.get(piece);
            int behind = behind(piece, effort, ahead);
            if (behind < 0) {
                first = piece;
                break;
            }
            if (behind == 0 && empty < 0) {
                empty = piece;
            }
            int here = seconds(piece, effort, ahead) + soon(piece + 1, behind) - soon(piece, ahead);
            if (here > much) {
                much = here;
                lost = piece;
            }
            ahead = behind;
        }
        return new int[] {first, empty, lost, much}[what];
    }

    int gears(int k, int what) {
        int best = -1;
        int bestSeconds = 0;
        for (int size = 1; size <= k; size++) {
            for (int set = 1; set < 1024; set += 2) {
                if (Integer.bitCount(set) == size) {
                    int seconds = soonest(0, now.store, set)[0];
                    if (best < 0 || seconds < bestSeconds) {
                        best = set;
                        bestSeconds = seconds;
                    }
                }
            }
        }
        return what == 0 ? best : bestSeconds;
    }

    // ---- heat: every set of hot pieces

    /** With t below 0 the mean, else how likely no more than t; above and below the line. */
    long[] chances(int way, int t) {
        int n = now.pieces.size();
        BigInteger above = BigInteger.ZERO;
        BigInteger below = BigInteger.TEN.pow(n);
        for (int hot = 0; hot < 1 << n; hot++) {
            long odds = 1;
            int seconds = 0;
            int store = now.store;
            for (int piece = 0; piece < n; piece++) {
                boolean isHot = (hot >> piece & 1) == 1;
                odds *= isHot ? now.heat : 10 - now.heat;
                int effort = takes(way, piece, store);
                int here = seconds(piece, effort, store);
                if (!isHot) {
                    store = behind(piece, effort, store);
                } else if (effort > now.bar) {
                    store -= 2 * now.pieces.get(piece)[0] * (effort - now.bar);
                }
                seconds += store < 0 ? 2 * here : here;
                store = Math.max(store, 0);
            }
            above = above.add(BigInteger.valueOf(t < 0 ? odds * seconds : seconds <= t ? odds : 0));
        }
        BigInteger divisor = above.gcd(below);
        return new long[] {above.divide(divisor).longValueExact(), below.divide(divisor).longValueExact()};
    }

    // ---- acts: bodies and the kinds above

    final List<Integer> trace = new ArrayList<>();
    private static final int[] ABOVE = {-1, 0, 0, 1, 1, 2, 0};
    private static final int[][] BODIES = {{1, 2, 3}, {11, 0, 0}, {0, 21, 0}, {0, 0, 41}, {51, 0, 0}, {0, 61, 0}, {0, 0, 31}};

    int act(int way, int act, int x) {
        trace.clear();
        return way < 0 || way >= now.ways.size() || act < 0 || act > 2 ? 0 : body(way, now.ways.get(way)[0], act, x);
    }

    private int body(int way, int from, int act, int x) {
        int kind = from;
        while (BODIES[kind][act] == 0) {
            kind = ABOVE[kind];
        }
        int v = now.ways.get(way)[1];
        int own = now.ways.get(way)[0];
        trace.add(BODIES[kind][act]);
        switch (BODIES[kind][act]) {
            case 1: return x + way;
            case 2: return body(way, own, 0, x) - v;
            case 3: return body(way, own, 1, x) * 2;
            case 11: return body(way, 0, 0, x * 3);
            case 21: return -body(way, 0, 1, x);
            case 31: return body(way, 0, 2, x) ^ 7;
            case 41: {
                int rested = body(way, 1, 2, x - 1);
                return rested + body(way, own, 0, 2);
            }
            case 51: return body(way, 1, 0, x) ^ way;
            default: return body(way, 2, 1, x) + v;
        }
    }

    int as(int way, int k) {
        for (int kind = now.ways.get(way)[0]; kind >= 0; kind = ABOVE[kind]) {
            if (kind == k) {
                return now.ways.get(way)[1];
            }
        }
        return -6;
    }

    void image() {
        kept = new State();
        kept.set(now);
    }

    boolean undo() {
        if (kept == null) {
            return false;
        }
        now.set(kept);
        return true;
    }
}
