import java.util.Random;

/** Random runs of calls, right ones and wrong ones, held against the plain model of the document. */
public final class RandomRunsTest {
    private static final Due DUE = new Due();
    private static final int[] EXTREMES = {Integer.MIN_VALUE, -1000, -2, -1, 10, 12, 13, 24, 25, 40, 41, 60, 61, 100,
        255, 256, 1000, 1000000, Integer.MAX_VALUE - 1, Integer.MAX_VALUE};

    private final Random random;
    private final SwanDeeds x = new SwanDeeds();
    private final PlainModel m = new PlainModel();
    private final int run;
    private int calls;

    private RandomRunsTest(int run) {
        this.run = run;
        random = new Random(run);
    }

    private void same(String call, long got, long want, int... arguments) {
        calls++;
        if (got != want) {
            StringBuilder text = new StringBuilder("run " + run + ", call " + calls + ": " + call + "(");
            for (int argument : arguments) {
                text.append(argument).append(' ');
            }
            DUE.is(text.append(')').toString(), got, want);
        } else {
            DUE.is(call, got, want);
        }
    }

    /** Mostly from least to most, sometimes just beyond, or far off. */
    private int pick(int least, int most) {
        int dice = random.nextInt(40);
        if (dice == 0) {
            return EXTREMES[random.nextInt(EXTREMES.length)];
        }
        if (dice == 1) {
            return random.nextBoolean() ? least - 1 : most + 1;
        }
        return least + random.nextInt(Math.max(1, most - least + 1));
    }

    private int swan() {
        return pick(0, m.count(2) - 1);
    }

    private int place() {
        return pick(0, m.count(1) - 1);
    }

    private void feedText(String text) {
        for (int i = 0; i < text.length(); i++) {
            same("feed", x.feed(text.charAt(i)), m.feed(text.charAt(i)), text.charAt(i));
        }
    }

    private String riverText() {
        int lawns = 2 + random.nextInt(8);
        StringBuilder text = new StringBuilder("r" + number(lawns) + "," + number(random.nextInt(random.nextInt(10) + 1)) + ";");
        int swans = 1 + random.nextInt(random.nextInt(20) == 0 ? 8 : 6);
        String sorts = random.nextInt(3) == 0 ? "ccccp" : "pcyob";
        for (int s = 0; s < swans; s++) {
            text.append(sorts.charAt(random.nextInt(5))).append(number(random.nextInt(lawns))).append(',');
            text.append(number(random.nextInt(lawns))).append(',').append(number(1 + random.nextInt(9))).append(';');
        }
        return text.toString();
    }

    private String number(int n) {
        return random.nextInt(30) == 0 ? "0" + n : "" + n;
    }

    private String spoilt(String text) {
        StringBuilder spoilt = new StringBuilder(text);
        int at = random.nextInt(spoilt.length());
        switch (random.nextInt(4)) {
            case 0 -> spoilt.setLength(at);
            case 1 -> spoilt.deleteCharAt(at);
            case 2 -> spoilt.insert(at, "rpcyobq0123456789,; A".charAt(random.nextInt(21)));
            default -> spoilt.setCharAt(at, random.nextInt(5) == 0 ? (char) random.nextInt(256)
                : "rpcyobq0123456789,; A".charAt(random.nextInt(21)));
        }
        return spoilt.toString();
    }

    private void readRiver(boolean sound) {
        feedText(sound ? riverText() : spoilt(riverText()));
        same("river", x.river(), m.river());
        same("fault", x.fault(), m.fault());
    }

    /** A row by which at least one swan fits, so that what is asked of rows has answers. */
    private void writeRow() {
        int row = random.nextInt(3);
        int n = 1 + random.nextInt(5);
        int lane = random.nextInt(3);
        same("row", x.row(row, lane, n), m.row(row, lane, n), row, lane, n);
        int swan = random.nextInt(Math.max(1, m.count(2)));
        for (int d = 0; d < n; d++) {
            int v = random.nextInt(12) == 0 ? place() : m.ahead(swan, d + 1);
            same("set", x.set(row, d, v), m.set(row, d, v), row, d, v);
        }
    }

    private void look() {
        for (int what = -1; what <= 8; what++) {
            same("count", x.count(what), m.count(what), what);
        }
        for (int swan = 0; swan < m.count(2); swan++) {
            for (int what = 0; what <= 3; what++) {
                same("swan", x.swan(swan, what), m.swan(swan, what), swan, what);
            }
        }
        for (int lawn = 0; lawn < m.count(1); lawn++) {
            for (int what = 0; what <= 3; what++) {
                same("lawn", x.lawn(lawn, what), m.lawn(lawn, what), lawn, what);
            }
        }
    }

    private void call() {
        switch (random.nextInt(8)) {
            case 0 -> callOfRows();
            case 1, 2, 3 -> callOfActs();
            case 4, 5 -> callOfAhead();
            case 6 -> callOfGuesses();
            default -> callOfAsks();
        }
        same("status", x.status(), m.status());
    }

    private void callOfRows() {
        int row = pick(0, random.nextBoolean() ? 2 : 7);
        int other = pick(0, 3);
        int i = pick(0, 5);
        int j = pick(0, 5);
        int n = pick(0, 5);
        int v = random.nextInt(4) == 0 ? random.nextInt() : random.nextInt(9);
        switch (random.nextInt(7)) {
            case 0 -> same("row", x.row(row, other, n), m.row(row, other, n), row, other, n);
            case 1 -> {
                int many = pick(30, 40);
                same("row", x.row(row, other, many), m.row(row, other, many), row, other, many);
            }
            case 2 -> same("set", x.set(row, i, v), m.set(row, i, v), row, i, v);
            case 3, 4 -> same("copy", x.copy(row, i, other, j, n), m.copy(row, i, other, j, n), row, i, other, j, n);
            case 5 -> same("drop", x.drop(row), m.drop(row), row);
            default -> writeRow();
        }
    }

    private void callOfActs() {
        int lawn = place();
        int swan = swan();
        int n = pick(1, 9);
        int on = pick(0, 1);
        int days = random.nextInt(4) == 0 ? pick(1, 24) : pick(1, 3);
        int k = pick(0, 1);
        switch (random.nextInt(16)) {
            case 0 -> same("feed", x.feed(n), m.feed(n), n);
            case 1 -> {
                readRiver(random.nextInt(3) > 0);
                look();
            }
            case 2, 3, 4 -> same("undo", x.undo(), m.undo());
            case 5, 6 -> same("days", x.days(days), m.days(days), days);
            case 7, 8, 9 -> same("bread", x.bread(lawn, n), m.bread(lawn, n), lawn, n);
            case 10 -> same("weir", x.weir(lawn, on), m.weir(lawn, on), lawn, on);
            case 11, 12 -> same("frighten", x.frighten(swan, on), m.frighten(swan, on), swan, on);
            case 13 -> same("weight", x.weight(swan, n), m.weight(swan, n), swan, n);
            case 14 -> same("image", x.image(k), m.image(k), k);
            default -> same("restore", x.restore(k), m.restore(k), k);
        }
        if (random.nextInt(6) == 0) {
            look();
        }
    }

    private void callOfAhead() {
        int swan = swan();
        int other = swan();
        int lawn = place();
        int n = pick(0, random.nextBoolean() ? 5 : 60);
        int what = pick(0, 1);
        switch (random.nextInt(10)) {
            case 0 -> same("ahead", x.ahead(swan, n), m.ahead(swan, n), swan, n);
            case 1 -> same("owns", x.owns(lawn, n), m.owns(lawn, n), lawn, n);
            case 2 -> same("nobody", x.nobody(n), m.nobody(n), n);
            case 3 -> same("moves", x.moves(swan), m.moves(swan), swan);
            case 4 -> same("evening", x.evening(), m.evening());
            case 5 -> same("stays", x.stays(swan, lawn, n), m.stays(swan, lawn, n), swan, lawn, n);
            case 6 -> same("hold", x.hold(swan, what), m.hold(swan, what), swan, what);
            case 7 -> same("meet", x.meet(swan, other), m.meet(swan, other), swan, other);
            case 8 -> same("fights", x.fights(n), m.fights(n), n);
            default -> same("hungry", x.hungry(n), m.hungry(n), n);
        }
    }

    private void callOfGuesses() {
        int swan = swan();
        int other = swan();
        int lawn = place();
        int row = pick(0, 2);
        int i = pick(0, 1);
        int n = pick(1, 3);
        int what = pick(0, 1);
        int days = pick(1, random.nextBoolean() ? 5 : 20);
        int p = pick(0, 10);
        int seed = pick(1, 999999);
        int far = pick(0, 60);
        switch (random.nextInt(9)) {
            case 0 -> same("crusts", x.crusts(swan, lawn, days, what), m.crusts(swan, lawn, days, what), swan, lawn, days, what);
            case 1 -> same("weirs", x.weirs(swan, lawn, days, what), m.weirs(swan, lawn, days, what), swan, lawn, days, what);
            case 2 -> same("doubles", x.doubles(what), m.doubles(what), what);
            case 3, 4 -> {
                int which = pick(0, 2);
                int told = random.nextBoolean() ? n : pick(1, 12);
                same("who", x.who(swan, which, other, row, i, told), m.who(swan, which, other, row, i, told),
                    swan, which, other, row, i, told);
            }
            case 5 -> same("which", x.which(row, i, n), m.which(row, i, n), row, i, n);
            case 6 -> same("sink", x.sink(swan, lawn, p, what), m.sink(swan, lawn, p, what), swan, lawn, p, what);
            default -> same("drawn", x.drawn(far, seed, what), m.drawn(far, seed, what), far, seed, what);
        }
    }

    private void callOfAsks() {
        int one = swan();
        int kind = pick(0, 5);
        int what = pick(0, 1);
        switch (random.nextInt(3)) {
            case 0 -> same("kind", x.kind(one), m.kind(one), one);
            case 1 -> same("as", x.as(one, kind), m.as(one, kind), one, kind);
            default -> {
                same("ask", x.ask(one, what), m.ask(one, what), one, what);
                for (int i = -1; i < 8; i++) {
                    same("trace", x.trace(i), m.trace(i), i);
                }
            }
        }
    }

    public static void main(String[] args) {
        int runs = args.length > 0 ? Integer.parseInt(args[0]) : 600;
        for (int run = 1; run <= runs; run++) {
            RandomRunsTest test = new RandomRunsTest(run);
            if (run % 10 > 0) {
                test.readRiver(true);
            }
            test.look();
            while (test.calls < 450) {
                test.call();
            }
        }
        DUE.end("RandomRunsTest");
    }
}
