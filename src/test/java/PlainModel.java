import java.math.BigInteger;
import java.util.ArrayDeque;
import java.util.ArrayList;
import java.util.Arrays;
import java.util.List;
import java.util.regex.Matcher;
import java.util.regex.Pattern;

/** The document once more, written apart from the class and without care for room: what random runs are held against. */
final class PlainModel {
    static final int NONE = -1000000, BAD = -1000001, STATE = -1000002, FULL = -1000003;

    static final class Bird {
        char sort;
        int lawn, plot, weight;

        Bird(char sort, int lawn, int plot, int weight) {
            this.sort = sort;
            this.lawn = lawn;
            this.plot = plot;
            this.weight = weight;
        }

        Bird twin() {
            return new Bird(sort, lawn, plot, weight);
        }
    }

    static final class Water {
        int[] bread;
        boolean[] barred;
        List<Bird> birds = new ArrayList<>();
        int day, beaten;
        boolean[] ate = new boolean[6];

        Water twin() {
            Water w = new Water();
            w.bread = bread.clone();
            w.barred = barred.clone();
            for (Bird b : birds) {
                w.birds.add(b.twin());
            }
            w.day = day;
            return w;
        }

        int step(int lawn, int by) {
            int to = lawn + by;
            if (to < 0 || to >= bread.length) {
                return lawn;
            }
            return barred[Math.min(lawn, to)] ? lawn : to;
        }

        boolean openBetween(int a, int b) {
            for (int i = Math.min(a, b); i < Math.max(a, b); i++) {
                if (barred[i]) {
                    return false;
                }
            }
            return true;
        }

        int goal(Bird me) {
            if (me.sort == 'o' || me.sort == 'b') {
                return bread[me.lawn] > 0 ? me.lawn : step(me.lawn, me.sort == 'o' ? -1 : 1);
            }
            int reach = me.sort == 'y' ? 1 : 2;
            int best = -1;
            for (int l = 0; l < bread.length; l++) {
                if (Math.abs(l - me.lawn) > reach || !openBetween(l, me.lawn) || seen(me, l) == 0) {
                    continue;
                }
                if (best < 0 || seen(me, l) > seen(me, best)
                        || seen(me, l) == seen(me, best) && Math.abs(l - me.lawn) < Math.abs(best - me.lawn)) {
                    best = l;
                }
            }
            return best < 0 || best == me.lawn ? me.lawn : best < me.lawn ? me.lawn - 1 : me.lawn + 1;
        }

        int seen(Bird me, int lawn) {
            if (me.sort == 'c') {
                for (Bird b : birds) {
                    if (b != me && b.sort == 'c' && b.lawn == lawn) {
                        return 0;
                    }
                }
            }
            return bread[lawn];
        }

        Water day() {
            for (int i = 0; i < birds.size(); i++) {
                Bird b = birds.get(i);
                b.lawn = goal(b);
                if (bread[b.lawn] > 0) {
                    bread[b.lawn]--;
                    ate[i] = true;
                }
            }
            for (int l = 0; l < bread.length; l++) {
                List<Bird> cobs = new ArrayList<>();
                Bird champion = null;
                for (Bird b : birds) {
                    if (b.sort == 'c' && b.lawn == l) {
                        cobs.add(b);
                        champion = champion == null || b.weight > champion.weight ? b : champion;
                    }
                }
                for (Bird b : cobs) {
                    if (b != champion) {
                        beaten++;
                        b.lawn = step(l, -1);
                    }
                }
            }
            day++;
            return this;
        }

        Water days(int n) {
            Water w = this;
            for (int i = 0; i < n; i++) {
                w = w.day();
            }
            return w;
        }

        Water after(int n) {
            return twin().days(n);
        }

        void toss(int lawn, int n) {
            bread[lawn] = Math.min(99, bread[lawn] + n);
        }

        int owners() {
            boolean[] has = new boolean[bread.length];
            int n = 0;
            for (Bird b : birds) {
                if (!has[b.lawn]) {
                    n++;
                }
                has[b.lawn] = true;
            }
            return n;
        }

        int weirs() {
            int bits = 0;
            for (int i = 0; i < barred.length; i++) {
                bits += barred[i] ? 1 << i : 0;
            }
            return bits;
        }
    }

    private static final class Shelf {
        final int lane;
        final int[] items;

        Shelf(int lane, int n) {
            this.lane = lane;
            items = new int[n];
        }
    }

    private final Shelf[] rows = new Shelf[8];
    private String tape = "";
    private Water river;
    private final ArrayDeque<Water> past = new ArrayDeque<>();
    private final Water[] images = new Water[2];
    private int fault, status;
    private List<Integer> trace = new ArrayList<>();

    private int finding(int number) {
        status = number;
        return -1000010 - number;
    }

    private int fine(int answer) {
        status = 0;
        return answer;
    }

    private boolean bird(int s) {
        return river != null && s >= 0 && s < river.birds.size();
    }

    private boolean place(int l) {
        return river != null && l >= 0 && l < river.bread.length;
    }

    private static boolean in(int n, int a, int b) {
        return a <= n && n <= b;
    }

    private static int bit(boolean b, int i) {
        return b ? 1 << i : 0;
    }

    int row(int row, int lane, int n) {
        if (!in(row, 0, 7) || !in(lane, 0, 2) || n > 40) {
            return BAD;
        }
        if (n < 0) {
            return finding(4);
        }
        rows[row] = new Shelf(lane, n);
        return fine(n);
    }

    int set(int row, int i, int v) {
        if (!in(row, 0, 7)) {
            return BAD;
        }
        if (rows[row] == null) {
            return finding(1);
        }
        if (!in(i, 0, rows[row].items.length - 1)) {
            return finding(2);
        }
        int drop = new int[] {24, 16, 0}[rows[row].lane];
        rows[row].items[i] = v << drop >> drop;
        return fine(rows[row].items[i]);
    }

    private static boolean spans(int[] items, int i, int n) {
        return i >= 0 && n >= 0 && (long) i + n <= items.length;
    }

    int copy(int a, int i, int b, int j, int n) {
        if (!in(a, 0, 7) || !in(b, 0, 7)) {
            return BAD;
        }
        if (rows[a] == null || rows[b] == null) {
            return finding(1);
        }
        if (rows[a].lane != rows[b].lane) {
            return finding(5);
        }
        if (!spans(rows[a].items, i, n) || !spans(rows[b].items, j, n)) {
            return finding(2);
        }
        int[] ahead = rows[a].items.clone();
        for (int k = 0; k < n; k++) {
            rows[b].items[j + k] = ahead[i + k];
        }
        return fine(n);
    }

    int drop(int row) {
        if (!in(row, 0, 7)) {
            return BAD;
        }
        if (rows[row] == null) {
            return finding(1);
        }
        int n = rows[row].items.length;
        rows[row] = null;
        return fine(n);
    }

    int feed(int letter) {
        if (!in(letter, 0, 255)) {
            return BAD;
        }
        if (tape.length() == 100) {
            return FULL;
        }
        tape += (char) letter;
        return tape.length();
    }

    private static final Pattern TOKEN = Pattern.compile("[0-9]+|.", Pattern.DOTALL);

    int river() {
        List<String> tokens = new ArrayList<>();
        List<Integer> at = new ArrayList<>();
        Matcher m = TOKEN.matcher(tape);
        while (m.find()) {
            tokens.add(m.group());
            at.add(m.start());
        }
        tokens.add("end");
        at.add(tape.length());
        tape = "";
        Water w = new Water();
        int[] swan = new int[4];
        // what may stand: its place within a law of five tokens, or a swan of seven
        for (int t = 0;; t++) {
            String token = tokens.get(t);
            int k = t < 5 ? t : 5 + (t - 5) % 7;
            if (token.equals("end") && k == 5 && w.birds.size() > 0) {
                break;
            }
            boolean number = token.matches("[0-9]{1,2}");
            boolean fits = switch (k) {
                case 0 -> token.equals("r");
                case 1, 3, 6, 8, 10 -> number;
                case 2, 7, 9 -> token.equals(",");
                case 4, 11 -> token.equals(";");
                default -> token.matches("[pcyob]");
            };
            if (!fits) {
                fault = 1;
                return -1000100 - at.get(t);
            }
            int v = number ? Integer.parseInt(token) : 0;
            boolean right = switch (k) {
                case 1 -> in(v, 2, 9);
                case 3 -> in(v, 0, 9);
                case 6, 8 -> in(v, 0, w.bread.length - 1);
                case 10 -> in(v, 1, 9);
                default -> true;
            };
            if (!right) {
                fault = 2;
                return -1000100 - at.get(t);
            }
            if (k == 5 && w.birds.size() == 6) {
                fault = 3;
                return -1000100 - at.get(t);
            }
            switch (k) {
                case 1 -> {
                    w.bread = new int[v];
                    w.barred = new boolean[v];
                }
                case 3 -> Arrays.fill(w.bread, v);
                case 5 -> swan[0] = token.charAt(0);
                case 6 -> swan[1] = v;
                case 8 -> swan[2] = v;
                case 10 -> swan[3] = v;
                case 11 -> w.birds.add(new Bird((char) swan[0], swan[1], swan[2], swan[3]));
                default -> { }
            }
        }
        river = w;
        past.clear();
        return w.birds.size();
    }

    int fault() {
        return fault;
    }

    int undo() {
        if (past.isEmpty()) {
            return STATE;
        }
        river = past.pop();
        return past.size();
    }

    private void act() {
        past.push(river.twin());
        if (past.size() > 24) {
            past.removeLast();
        }
    }

    int days(int n) {
        if (river == null) {
            return STATE;
        }
        if (!in(n, 1, 24)) {
            return BAD;
        }
        if (river.day + n > 999) {
            return FULL;
        }
        for (int i = 0; i < n; i++) {
            act();
            river.day();
        }
        return river.owners();
    }

    int bread(int lawn, int n) {
        if (!place(lawn) || !in(n, 1, 9)) {
            return BAD;
        }
        act();
        river.toss(lawn, n);
        return river.bread[lawn];
    }

    int weir(int lawn, int on) {
        if (!place(lawn) || lawn == river.bread.length - 1 || !in(on, 0, 1)) {
            return BAD;
        }
        if (river.barred[lawn] == (on == 1)) {
            return STATE;
        }
        act();
        river.barred[lawn] = on == 1;
        return river.weirs();
    }

    int frighten(int swan, int up) {
        if (!bird(swan) || !in(up, 0, 1)) {
            return BAD;
        }
        Bird b = river.birds.get(swan);
        int to = river.step(b.lawn, up * 2 - 1);
        if (to == b.lawn) {
            return STATE;
        }
        act();
        b.lawn = to;
        return to;
    }

    int weight(int swan, int n) {
        if (!bird(swan) || !in(n, 1, 9)) {
            return BAD;
        }
        act();
        int was = river.birds.get(swan).weight;
        river.birds.get(swan).weight = n;
        return was;
    }

    int swan(int swan, int what) {
        if (!bird(swan) || !in(what, 0, 3)) {
            return BAD;
        }
        Bird b = river.birds.get(swan);
        return new int[] {b.lawn, b.plot, b.weight, river.goal(b)}[what];
    }

    int lawn(int lawn, int what) {
        if (!place(lawn) || !in(what, 0, 3)) {
            return BAD;
        }
        int there = 0;
        for (int s = 0; s < river.birds.size(); s++) {
            there |= bit(river.birds.get(s).lawn == lawn, s);
        }
        return new int[] {river.bread[lawn], bit(river.barred[lawn], 0), there, plots(river, lawn)}[what];
    }

    private static int plots(Water w, int lawn) {
        int bits = 0;
        for (Bird b : w.birds) {
            bits |= bit(b.lawn == lawn, b.plot);
        }
        return bits;
    }

    private static int at(Water w, int swan) {
        return w.birds.get(swan).lawn;
    }

    int ahead(int swan, int n) {
        return bird(swan) && in(n, 0, 60) ? at(river.after(n), swan) : BAD;
    }

    int owns(int family, int n) {
        return place(family) && in(n, 0, 60) ? plots(river.after(n), family) : BAD;
    }

    int nobody(int n) {
        if (river == null) {
            return STATE;
        }
        if (!in(n, 0, 60)) {
            return BAD;
        }
        Water w = river.after(n);
        int bits = 0;
        for (int l = 0; l < w.bread.length; l++) {
            bits |= bit(plots(w, l) == 0, l);
        }
        return bits;
    }

    int moves(int swan) {
        if (!bird(swan)) {
            return BAD;
        }
        for (int d = 1; d <= 60; d++) {
            if (at(river.after(d), swan) != at(river, swan)) {
                return d;
            }
        }
        return NONE;
    }

    int evening() {
        if (river == null) {
            return STATE;
        }
        for (int d = 0; d <= 60; d++) {
            Water w = river.after(d);
            if (w.birds.stream().allMatch(b -> b.lawn == at(w, 0))) {
                return d;
            }
        }
        return NONE;
    }

    int stays(int swan, int lawn, int n) {
        if (!bird(swan) || !place(lawn) || !in(n, 1, 60)) {
            return BAD;
        }
        int times = 0;
        for (int d = 1; d <= n; d++) {
            times += at(river.after(d), swan) == lawn ? 1 : 0;
        }
        return times;
    }

    /** Of all sets that bring it there the fewest, then the least. */
    private int sought(int swan, int lawn, int n, int what, boolean weirs) {
        if (!bird(swan) || !place(lawn) || !in(n, 1, 20) || !in(what, 0, 1)) {
            return BAD;
        }
        int places = river.bread.length - (weirs ? 1 : 0);
        int best = NONE;
        for (int set = (1 << places) - 1; set >= 0; set--) {
            if (weirs && (set & river.weirs()) != 0) {
                continue;
            }
            if (best != NONE && Integer.bitCount(set) > Integer.bitCount(best)) {
                continue;
            }
            Water w = river.twin();
            for (int l = 0; l < places; l++) {
                if ((set >> l & 1) == 1) {
                    if (weirs) {
                        w.barred[l] = true;
                    } else {
                        w.toss(l, 9);
                    }
                }
            }
            if (at(w.days(n), swan) == lawn) {
                best = set;
            }
        }
        return best == NONE ? NONE : what == 1 ? best : Integer.bitCount(best);
    }

    int crusts(int swan, int lawn, int n, int what) {
        return sought(swan, lawn, n, what, false);
    }

    int weirs(int swan, int lawn, int n, int what) {
        return sought(swan, lawn, n, what, true);
    }

    int hold(int swan, int what) {
        if (!bird(swan) || !in(what, 0, 1)) {
            return BAD;
        }
        int[] held = new int[river.bread.length];
        int best = 0;
        for (int l = 0; l < held.length; l++) {
            Water w = river.twin();
            w.toss(l, 9);
            while (held[l] < 60 && at(w.day(), swan) == at(river, swan)) {
                held[l]++;
            }
            best = held[l] > held[best] ? l : best;
        }
        return what == 0 ? best : held[best];
    }

    int meet(int swan, int other) {
        if (!bird(swan) || !bird(other) || swan == other) {
            return BAD;
        }
        for (int d = 0; d <= 60; d++) {
            Water w = river.after(d);
            if (at(w, swan) == at(w, other)) {
                return d;
            }
        }
        return NONE;
    }

    int fights(int n) {
        return river == null ? STATE : in(n, 1, 60) ? river.after(n).beaten : BAD;
    }

    int doubles(int what) {
        if (river == null) {
            return STATE;
        }
        if (!in(what, 0, 1)) {
            return BAD;
        }
        List<Integer> pairs = new ArrayList<>();
        for (int pair = 0; pair < 60; pair++) {
            int a = pair / 10;
            int b = pair % 10;
            if (a < b && bird(b) && river.birds.get(a).plot == river.birds.get(b).plot) {
                pairs.add(pair);
            }
        }
        return what == 0 ? pairs.size() : pairs.isEmpty() ? NONE : pairs.get(0);
    }

    private int listed(int row, int i, int n) {
        return rows[row] == null ? 1 : spans(rows[row].items, i, n) ? 0 : 2;
    }

    private boolean told(Water w, int swan, int row, int i, int n) {
        for (int d = 0; d < n; d++) {
            if (at(w.after(d + 1), swan) != rows[row].items[i + d]) {
                return false;
            }
        }
        return true;
    }

    int who(int swan, int which, int other, int row, int i, int n) {
        if (!bird(swan) || !in(which, 0, 2) || !bird(other) || !in(row, 0, 7) || !in(n, 1, 12)) {
            return BAD;
        }
        if (listed(row, i, n) != 0) {
            return finding(listed(row, i, n));
        }
        int bits = 0;
        for (int v = 0; v < 10; v++) {
            Water w = river.twin();
            Bird b = w.birds.get(swan);
            if (which == 0 && in(v, 1, 5)) {
                b.sort = " pcyob".charAt(v);
            } else if (which == 1 && v < river.bread.length) {
                b.lawn = v;
            } else if (which == 2 && v > 0) {
                b.weight = v;
            } else {
                continue;
            }
            bits |= bit(told(w, other, row, i, n), v);
        }
        return fine(bits);
    }

    int which(int row, int i, int n) {
        if (river == null) {
            return STATE;
        }
        if (!in(row, 0, 7) || !in(n, 1, 12)) {
            return BAD;
        }
        if (listed(row, i, n) != 0) {
            return finding(listed(row, i, n));
        }
        int bits = 0;
        for (int s = 0; s < river.birds.size(); s++) {
            bits |= bit(told(river, s, row, i, n), s);
        }
        return fine(bits);
    }

    int hungry(int n) {
        if (river == null) {
            return STATE;
        }
        if (!in(n, 1, 60)) {
            return BAD;
        }
        Water w = river.after(n);
        int bits = 0;
        for (int s = 0; s < w.birds.size(); s++) {
            bits |= bit(!w.ate[s], s);
        }
        return bits;
    }

    long sink(int swan, int lawn, int p, int what) {
        if (!bird(swan) || !place(lawn) || !in(p, 0, 10) || !in(what, 0, 1)) {
            return BAD;
        }
        BigInteger above = sinkFrom(river, 0, swan, lawn, p);
        BigInteger below = BigInteger.ONE;
        for (int b : river.bread) {
            below = b > 0 ? below.multiply(BigInteger.TEN) : below;
        }
        BigInteger shared = above.gcd(below);
        return (what == 0 ? above : below).divide(shared).longValueExact();
    }

    private static BigInteger sinkFrom(Water w, int from, int swan, int lawn, int p) {
        for (int l = from; l < w.bread.length; l++) {
            if (w.bread[l] > 0) {
                Water sunk = w.twin();
                sunk.bread[l] = 0;
                return sinkFrom(sunk, l + 1, swan, lawn, p).multiply(BigInteger.valueOf(p))
                    .add(sinkFrom(w, l + 1, swan, lawn, p).multiply(BigInteger.valueOf(10 - p)));
            }
        }
        return at(w.after(1), swan) == lawn ? BigInteger.ONE : BigInteger.ZERO;
    }

    int drawn(int n, int seed, int what) {
        if (river == null) {
            return STATE;
        }
        if (!in(n, 0, 60) || !in(seed, 1, 999999) || !in(what, 0, 1)) {
            return BAD;
        }
        BigInteger x = BigInteger.valueOf(seed);
        Water w = river.twin();
        int moved = 0;
        for (int d = 0; d < n; d++) {
            x = x.multiply(BigInteger.valueOf(16807)).mod(BigInteger.valueOf(2147483647));
            w.toss(x.intValue() % w.bread.length, x.intValue() % 4);
            int[] ahead = w.birds.stream().mapToInt(b -> b.lawn).toArray();
            w.day();
            for (int s = 0; s < ahead.length; s++) {
                moved += at(w, s) != ahead[s] ? 1 : 0;
            }
        }
        return what == 0 ? w.owners() : moved;
    }

    int image(int k) {
        if (!in(k, 0, 1)) {
            return BAD;
        }
        if (river == null) {
            return STATE;
        }
        images[k] = river.twin();
        return 1;
    }

    int restore(int k) {
        if (!in(k, 0, 1)) {
            return BAD;
        }
        if (images[k] == null) {
            return STATE;
        }
        river = images[k].twin();
        past.clear();
        return 1;
    }

    int kind(int one) {
        return bird(one) ? " pcyob".indexOf(river.birds.get(one).sort) : BAD;
    }

    private static final int[][] IS = {{}, {0, 1}, {0, 1, 2}, {0, 1, 3}, {0, 4}, {0, 4, 5}};

    int as(int one, int kind) {
        if (!bird(one) || !in(kind, 0, 5)) {
            return BAD;
        }
        return Arrays.stream(IS[kind(one)]).anyMatch(k -> k == kind) ? fine(one) : finding(3);
    }

    int ask(int one, int what) {
        if (!bird(one) || !in(what, 0, 1)) {
            return BAD;
        }
        trace = new ArrayList<>();
        return what == 0 ? size(one) : mark(one);
    }

    private int size(int one) {
        return body(one, new int[] {0, 11, 12, 11, 13, 14}[kind(one)]);
    }

    private int mark(int one) {
        return body(one, new int[] {0, 21, 24, 22, 23, 23}[kind(one)]);
    }

    private int body(int one, int number) {
        if (trace.size() < 16) {
            trace.add(number);
        }
        return switch (number) {
            case 10 -> river.birds.get(one).weight;
            case 11 -> body(one, 10) + mark(one);
            case 12 -> -body(one, 11);
            case 13 -> body(one, 10) - 100;
            case 14 -> 2 * body(one, 13);
            case 20 -> one;
            case 21 -> body(one, 20) + at(river, one);
            case 22 -> body(one, 21) - 1000;
            case 23 -> body(one, 20) - size(one);
            default -> 2 * body(one, 21);
        };
    }

    int trace(int i) {
        return in(i, 0, trace.size() - 1) ? trace.get(i) : NONE;
    }

    int count(int what) {
        boolean none = river == null;
        return switch (what) {
            case 0 -> (int) Arrays.stream(rows).filter(r -> r != null).count();
            case 1 -> none ? 0 : river.bread.length;
            case 2 -> none ? 0 : river.birds.size();
            case 3 -> none ? 0 : river.day;
            case 4 -> none ? 0 : Arrays.stream(river.bread).sum();
            case 5 -> none ? 0 : river.weirs();
            case 6 -> past.size();
            case 7 -> tape.length();
            default -> BAD;
        };
    }

    int status() {
        return status;
    }
}
