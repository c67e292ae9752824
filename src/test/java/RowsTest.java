/** Promises 1 to 5 and 41: a new object, rows, what is found of them. */
public final class RowsTest {
    private static final Due DUE = new Due();
    private static final int BAD = SwanDeeds.BAD;

    public static void main(String[] args) {
        newObject();
        rows();
        items();
        copies();
        overlaps();
        lastRow();
        drops();
        status();
        DUE.end("RowsTest");
    }

    private static void newObject() {
        DUE.is("NONE", SwanDeeds.NONE, -1000000);
        DUE.is("BAD", SwanDeeds.BAD, -1000001);
        DUE.is("STATE", SwanDeeds.STATE, -1000002);
        DUE.is("FULL", SwanDeeds.FULL, -1000003);
        SwanDeeds x = new SwanDeeds();
        for (int what = 0; what < 8; what++) {
            DUE.is("count", x.count(what), 0);
        }
        DUE.is("fault", x.fault(), 0);
        DUE.is("status", x.status(), 0);
        DUE.is("undo", x.undo(), SwanDeeds.STATE);
        DUE.is("trace", x.trace(0), SwanDeeds.NONE);
        for (int row = 0; row < 8; row++) {
            DUE.is("drop", x.drop(row), Due.NULL);
        }
    }

    private static void rows() {
        SwanDeeds x = new SwanDeeds();
        DUE.is("row", x.row(0, 0, 0), 0);
        DUE.is("row", x.row(7, 2, 40), 40);
        DUE.is("present", x.count(0), 2);
        DUE.is("row again", x.row(7, 1, 3), 3);
        DUE.is("present", x.count(0), 2);
        DUE.is("row -1", x.row(-1, 0, 1), BAD);
        DUE.is("row 8", x.row(8, 0, 1), BAD);
        DUE.is("lane -1", x.row(1, -1, 1), BAD);
        DUE.is("lane 3", x.row(1, 3, 1), BAD);
        DUE.is("n 41", x.row(1, 0, 41), BAD);
        DUE.is("n max", x.row(1, 0, Integer.MAX_VALUE), BAD);
        DUE.is("n -1", x.row(1, 0, -1), Due.SIZE);
        DUE.is("n min", x.row(1, 0, Integer.MIN_VALUE), Due.SIZE);
        DUE.is("BAD ahead of SIZE", x.row(1, 3, -1), BAD);
        DUE.is("present", x.count(0), 2);
        DUE.is("SIZE of a row that is there", x.row(7, 0, -1), Due.SIZE);
        DUE.is("the row stays", x.set(7, 2, 300), 300);
    }

    private static void items() {
        SwanDeeds x = new SwanDeeds();
        x.row(0, 0, 2);
        x.row(1, 1, 2);
        x.row(2, 2, 40);
        int[][] bytes = {{127, 127}, {128, -128}, {255, -1}, {256, 0}, {-129, 127}, {Integer.MIN_VALUE, 0}};
        for (int[] pair : bytes) {
            DUE.is("set a byte", x.set(0, 1, pair[0]), pair[1]);
        }
        int[][] shorts = {{32767, 32767}, {32768, -32768}, {65535, -1}, {65536, 0}, {-32769, 32767}, {128, 128}};
        for (int[] pair : shorts) {
            DUE.is("set a short", x.set(1, 0, pair[0]), pair[1]);
        }
        DUE.is("set an int", x.set(2, 39, Integer.MAX_VALUE), Integer.MAX_VALUE);
        DUE.is("set an int", x.set(2, 0, Integer.MIN_VALUE), Integer.MIN_VALUE);
        DUE.is("set -1", x.set(-1, 0, 0), BAD);
        DUE.is("set 8", x.set(8, 0, 0), BAD);
        DUE.is("set a missing one", x.set(3, 0, 0), Due.NULL);
        DUE.is("NULL ahead of PLACE", x.set(3, -1, 0), Due.NULL);
        DUE.is("set at -1", x.set(0, -1, 0), Due.PLACE);
        DUE.is("set at the end", x.set(0, 2, 0), Due.PLACE);
        DUE.is("set far off", x.set(2, Integer.MAX_VALUE, 0), Due.PLACE);
        x.row(4, 2, 0);
        DUE.is("set in an empty one", x.set(4, 0, 0), Due.PLACE);
    }

    private static void copies() {
        SwanDeeds x = new SwanDeeds();
        x.row(0, 0, 3);
        x.row(1, 0, 5);
        x.row(2, 1, 5);
        DUE.is("copy", x.copy(0, 0, 1, 2, 3), 3);
        DUE.is("copy none", x.copy(0, 3, 1, 5, 0), 0);
        DUE.is("copy to itself", x.copy(0, 1, 0, 0, 2), 2);
        DUE.is("a -1", x.copy(-1, 0, 1, 0, 1), BAD);
        DUE.is("b 8", x.copy(0, 0, 8, 0, 1), BAD);
        DUE.is("BAD ahead of NULL", x.copy(3, 0, 8, 0, 1), BAD);
        DUE.is("a missing", x.copy(3, 0, 0, 0, 1), Due.NULL);
        DUE.is("b missing", x.copy(0, 0, 3, 0, 1), Due.NULL);
        DUE.is("NULL ahead of PLACE", x.copy(0, -1, 3, 0, 1), Due.NULL);
        DUE.is("lanes", x.copy(0, 0, 2, 0, 1), Due.STORE);
        DUE.is("STORE ahead of PLACE", x.copy(0, -1, 2, 0, 1), Due.STORE);
        DUE.is("i -1", x.copy(0, -1, 1, 0, 1), Due.PLACE);
        DUE.is("j -1", x.copy(0, 0, 1, -1, 1), Due.PLACE);
        DUE.is("n -1", x.copy(0, 1, 1, 1, -1), Due.PLACE);
        DUE.is("n min", x.copy(0, 1, 1, 1, Integer.MIN_VALUE), Due.PLACE);
        DUE.is("beyond a", x.copy(0, 1, 1, 0, 3), Due.PLACE);
        DUE.is("beyond b", x.copy(0, 0, 1, 3, 3), Due.PLACE);
        DUE.is("none beyond a", x.copy(0, 4, 1, 0, 0), Due.PLACE);
        DUE.is("wraps", x.copy(0, Integer.MAX_VALUE, 1, 0, 1), Due.PLACE);
        DUE.is("wraps", x.copy(0, 1, 1, 0, Integer.MAX_VALUE), Due.PLACE);
    }

    /** An old one swims 4, 3, 2, 1, 0: by this what lies in a row can be asked. */
    private static void overlaps() {
        SwanDeeds x = Due.told("r5,0;o4,0,1;");
        Due.fill(x, 0, 3, 2, 1, 0);
        x.copy(0, 0, 0, 1, 3);
        DUE.is("copied up", x.which(0, 1, 3), 1);
        Due.fill(x, 1, 9, 3, 2, 1);
        x.copy(1, 1, 1, 0, 3);
        DUE.is("copied down", x.which(1, 0, 3), 1);
        x.copy(1, 0, 0, 1, 3);
        x.set(1, 0, 7);
        DUE.is("what was copied stays", x.which(0, 1, 3), 1);
        SwanDeeds y = Due.told("r2,0;o0,0,1;");
        Due.fill(y, 0, 5, 5);
        y.row(0, 2, 2);
        DUE.is("a new row has 0 only", y.which(0, 0, 2), 1);
        Due.fill(y, 0, 5, 5);
        y.drop(0);
        y.row(0, 0, 2);
        DUE.is("one in place of a dropped one, too", y.which(0, 0, 2), 1);
    }

    private static void lastRow() {
        SwanDeeds x = Due.told("r2,0;p1,0,1;");
        x.row(7, 2, 2);
        x.row(0, 2, 2);
        DUE.is("set", x.set(7, 0, 1), 1);
        DUE.is("copy to it", x.copy(0, 0, 7, 1, 1), 1);
        DUE.is("copy from it", x.copy(7, 0, 0, 0, 1), 1);
        DUE.is("which", x.which(7, 0, 1), 1);
        DUE.is("who", x.who(0, 1, 0, 7, 0, 1), 2);
        DUE.is("a 8", x.copy(8, 0, 0, 0, 1), BAD);
        DUE.is("b -1", x.copy(0, 0, -1, 0, 1), BAD);
        DUE.is("drop", x.drop(7), 2);
    }

    private static void drops() {
        SwanDeeds x = new SwanDeeds();
        x.row(3, 2, 17);
        DUE.is("drop", x.drop(3), 17);
        DUE.is("dropped", x.drop(3), Due.NULL);
        DUE.is("drop -1", x.drop(-1), BAD);
        DUE.is("drop 8", x.drop(8), BAD);
        DUE.is("present", x.count(0), 0);
        x.row(3, 2, 0);
        DUE.is("drop an empty one", x.drop(3), 0);
    }

    private static void status() {
        SwanDeeds x = new SwanDeeds();
        x.set(0, 0, 0);
        DUE.is("NULL", x.status(), 1);
        x.set(9, 0, 0);
        DUE.is("BAD leaves it", x.status(), 1);
        x.row(0, 0, 2);
        DUE.is("fine", x.status(), 0);
        x.set(0, 2, 0);
        DUE.is("PLACE", x.status(), 2);
        x.which(0, 0, 1);
        DUE.is("STATE leaves it", x.status(), 2);
        x.feed('r');
        x.river();
        x.count(0);
        DUE.is("calls with no row leave it", x.status(), 2);
        x.set(0, 0, 1);
        DUE.is("fine", x.status(), 0);
        x.row(0, 0, -5);
        DUE.is("SIZE", x.status(), 4);
        x.row(1, 1, 1);
        x.copy(0, 0, 1, 0, 1);
        DUE.is("STORE", x.status(), 5);
        x.copy(0, 0, 0, 0, 1);
        DUE.is("fine", x.status(), 0);
        x.drop(5);
        DUE.is("NULL", x.status(), 1);
        x.drop(0);
        DUE.is("fine", x.status(), 0);
        Due.tell(x, "r2,0;p0,0,1;");
        x.as(0, 4);
        DUE.is("KIND", x.status(), 3);
        x.as(0, 6);
        x.as(1, 0);
        x.ask(0, 0);
        DUE.is("BAD, and asks, leave it", x.status(), 3);
        x.as(0, 1);
        DUE.is("fine", x.status(), 0);
        x.who(0, 0, 0, 0, 0, 1);
        DUE.is("NULL by who", x.status(), 1);
        x.which(1, 0, 1);
        DUE.is("fine by which", x.status(), 0);
        x.which(1, 1, 1);
        DUE.is("PLACE by which", x.status(), 2);
        x.who(0, 0, 0, 1, 0, 1);
        DUE.is("fine by who", x.status(), 0);
    }
}
