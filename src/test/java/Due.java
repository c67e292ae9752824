/** Counts the calls whose answer is not the one that is due, and ends a test by that count. */
final class Due {
    static final int NULL = -1000011, PLACE = -1000012, KIND = -1000013, SIZE = -1000014, STORE = -1000015;

    private int calls;
    private int wrong;

    void is(String call, long got, long want) {
        calls++;
        if (got != want) {
            wrong++;
            System.out.println(call + " answered " + got + ", due is " + want);
        }
    }

    void end(String test) {
        System.out.println(test + ": " + calls + " calls, " + wrong + " wrong");
        if (wrong > 0 || calls == 0) {
            System.exit(1);
        }
    }

    static void feed(SwanDeeds x, String text) {
        for (int i = 0; i < text.length(); i++) {
            x.feed(text.charAt(i));
        }
    }

    /** A new object with a river that is told without a fault. */
    static SwanDeeds told(String text) {
        SwanDeeds x = new SwanDeeds();
        tell(x, text);
        return x;
    }

    static void tell(SwanDeeds x, String text) {
        feed(x, text);
        if (x.river() < 1) {
            throw new IllegalStateException("a test's river has a fault: " + text);
        }
    }

    static void fill(SwanDeeds x, int row, int... items) {
        x.row(row, 2, items.length);
        for (int i = 0; i < items.length; i++) {
            x.set(row, i, items[i]);
        }
    }
}
