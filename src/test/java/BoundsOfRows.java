import java.util.Arrays;

/** What the document says of refusals and of rows, a sentence at a time: its bounds, and what lies just beyond them. */
final class BoundsOfRows {
    private static final Sentences S = Sentences.ALL;
    private static final int NONE = SwanDeeds.NONE, BAD = SwanDeeds.BAD, STATE = SwanDeeds.STATE, FULL = SwanDeeds.FULL;
    private static final int NULL = Due.NULL, PLACE = Due.PLACE, KIND = Due.KIND, SIZE = Due.SIZE, STORE = Due.STORE;

    static void all() {
        numbers();
        orderOfRefusals();
        orderOfFindings();
        findings();
        refused();
        rowsAtFirst();
        lanes();
        items();
        newObject();
        row();
        set();
        copy();
        copyOverlaps();
        drop();
        status();
    }

    private static void numbers() {
        S.terms("Numbers go from 0 on.").rich()
            .due("swan(0, 2)", 4).refused("swan(-1, 2)", BAD).due("swan(5, 2)", 7).refused("swan(6, 2)", BAD)
            .due("lawn(0, 1)", 0).refused("lawn(-1, 1)", BAD).due("lawn(3, 1)", 1).due("lawn(4, 1)", 0).refused("lawn(5, 1)", BAD)
            .due("set(0, 0, 9)", 9).refused("set(0, -1, 9)", PLACE).due("set(0, 3, 9)", 9).refused("set(0, 4, 9)", PLACE);
        S.terms("All that is divided is cut towards 0, but fractions, told as two numbers in lowest terms (0 is 0 by 1).")
            .tell("r2,1;o1,0,1;")
            .due("sink(0, 0, 0, 0)", 0).due("sink(0, 0, 0, 1)", 1)
            .due("sink(0, 0, 1, 0)", 1).due("sink(0, 0, 1, 1)", 10)
            .due("sink(0, 0, 4, 0)", 2).due("sink(0, 0, 4, 1)", 5)
            .due("sink(0, 0, 5, 0)", 1).due("sink(0, 0, 5, 1)", 2)
            .due("sink(0, 0, 10, 0)", 1).due("sink(0, 0, 10, 1)", 1);
        S.terms("Sets are bits.").tell("r9,0;o0,0,1;o8,8,1;")
            .due("nobody(0)", 254).due("lawn(0, 2)", 1).due("lawn(8, 2)", 2).due("lawn(0, 3)", 1).due("lawn(8, 3)", 256);
    }

    private static void orderOfRefusals() {
        String quote = "Refusals are answers, the first of these that fits, but as told:";
        S.terms(quote).refused("image(2)", BAD).refused("restore(2)", BAD).refused("image(0)", STATE).refused("restore(0)", STATE);
        S.terms(quote).rich()
            .refused("row(8, 0, -1)", BAD).refused("row(0, 3, -1)", BAD)
            .refused("set(8, -1, 0)", BAD).refused("copy(3, -1, 8, 0, 1)", BAD).refused("copy(8, -1, 3, 0, 1)", BAD)
            .refused("weir(3, 2)", BAD).refused("weir(4, 0)", BAD).refused("frighten(4, 2)", BAD)
            .refused("who(0, 0, 0, 3, -1, 0)", BAD).refused("who(0, 0, 0, 3, -1, 13)", BAD).refused("which(3, -1, 0)", BAD)
            .refused("as(0, 6)", BAD);
        S.terms(quote).full().refused("feed(256)", BAD).refused("days(25)", BAD).refused("feed(0)", FULL).refused("days(1)", FULL);
        S.terms("BAD (a number is not as told; there is no such thing), STATE (as told), FULL (as told), then FINDINGS,")
            .riverless().refused("swan(0, 0)", BAD).refused("which(3, -1, 0)", STATE).refused("which(3, -1, 1)", STATE);
    }

    private static void orderOfFindings() {
        S.terms("of several the first in time:").rich()
            .refused("set(3, -1, 0)", NULL).refused("copy(3, -1, 0, 0, 1)", NULL).refused("copy(0, 0, 3, 9, 1)", NULL)
            .refused("who(0, 0, 0, 3, -1, 1)", NULL).refused("which(3, -1, 1)", NULL)
            .refused("copy(3, 0, 1, 0, 1)", NULL).refused("copy(3, 0, 2, 0, 1)", NULL).refused("copy(1, 0, 3, 0, 1)", NULL)
            .refused("copy(2, 0, 3, 0, 1)", NULL).after("drop(7)").refused("copy(7, 0, 0, 0, 1)", NULL).refused("copy(0, 0, 7, 0, 1)", NULL)
            .after("drop(3)").refused("copy(0, -1, 1, 0, 1)", STORE).refused("copy(0, 0, 1, 9, 1)", STORE)
            .refused("copy(0, 0, 1, 0, -1)", STORE).refused("copy(0, 0, 5, 0, 1)", STORE);
    }

    private static void findings() {
        S.terms("-1000010 less 1 NULL (a ROW that is missing),").rich().refused("drop(3)", -1000011);
        S.terms("2 PLACE (no such place of a ROW),").rich().refused("set(5, 0, 0)", -1000012).refused("set(0, 4, 0)", -1000012);
        S.terms("3 KIND (a SWAN that is not that),").rich().refused("as(0, 2)", -1000013);
        S.terms("4 SIZE (fewer than none),").rich().refused("row(3, 0, -1)", -1000014).refused("row(0, 0, min)", -1000014);
        S.terms("5 STORE (ROWS of two LANES).").rich().after("drop(3)").refused("copy(0, 0, 1, 0, 1)", -1000015)
            .refused("copy(1, 0, 2, 0, 1)", -1000015).refused("copy(2, 0, 0, 0, 1)", -1000015).due("copy(5, 0, 2, 0, 0)", 0);
    }

    private static void refused() {
        String quote = "What is refused, or found, changes nothing but status().";
        Run rich = S.terms(quote).rich();
        for (String call : new String[] {"row(8, 0, 1)", "set(8, 0, 1)", "copy(8, 0, 0, 0, 1)", "drop(8)", "feed(256)", "days(25)",
            "bread(5, 1)", "weir(4, 1)", "frighten(6, 0)", "weight(6, 1)", "swan(6, 0)", "lawn(5, 0)", "ahead(6, 0)", "owns(5, 0)",
            "nobody(61)", "moves(6)", "stays(6, 0, 1)", "crusts(6, 0, 1, 0)", "weirs(6, 0, 1, 0)", "hold(6, 0)", "meet(6, 0)", "fights(61)",
            "doubles(2)", "who(6, 0, 0, 0, 0, 1)", "which(8, 0, 1)", "hungry(61)", "sink(6, 0, 0, 0)", "drawn(61, 1, 0)", "image(2)",
            "restore(2)", "kind(6)", "as(6, 0)", "ask(6, 0)", "count(8)"}) {
            rich.refused(call, BAD);
        }
        rich.refused("row(0, 0, -1)", SIZE).refused("set(3, 0, 1)", NULL).refused("set(0, 4, 1)", PLACE).refused("copy(0, 0, 0, 1, 4)", PLACE)
            .refused("drop(3)", NULL).refused("who(0, 0, 0, 3, 0, 1)", NULL).refused("who(0, 0, 0, 0, 0, 5)", PLACE)
            .refused("which(3, 0, 1)", NULL).refused("which(0, 0, 5)", PLACE).refused("as(0, 2)", KIND).refused("weir(3, 1)", STATE)
            .refused("frighten(3, 1)", STATE).refused("frighten(3, 0)", STATE).after("drop(3)").refused("copy(0, 0, 1, 0, 1)", STORE);
        Run none = S.terms(quote).riverless();
        for (String call : new String[] {"undo()", "days(1)", "nobody(0)", "evening()", "fights(1)", "doubles(0)", "which(0, 0, 1)", "hungry(1)",
            "drawn(0, 1, 0)", "image(0)", "restore(0)"}) {
            none.refused(call, STATE);
        }
        S.terms(quote).full().refused("feed(114)", FULL).refused("days(1)", FULL);
    }

    private static void rowsAtFirst() {
        Run x = S.terms("ROWS 0 .. 7 are missing (at first),").due("count(0)", 0).refused("drop(-1)", BAD).refused("drop(8)", BAD);
        for (int row = 0; row < 8; row++) {
            x.refused("drop(" + row + ")", NULL);
        }
        for (int row = 0; row < 8; row++) {
            x.due("row(" + row + ", 0, 1)", 1).due("count(0)", row + 1);
        }
        x.refused("row(8, 0, 1)", BAD).refused("row(-1, 0, 1)", BAD);
    }

    private static void lanes() {
        S.terms("or have a LANE (0 bytes, 1 shorts, 2 ints)").after("row(0, 0, 1)", "row(1, 1, 1)", "row(2, 2, 1)")
            .refused("row(3, -1, 1)", BAD).refused("row(3, 3, 1)", BAD)
            .due("set(0, 0, 127)", 127).due("set(0, 0, 128)", -128).due("set(0, 0, -128)", -128).due("set(0, 0, -129)", 127)
            .due("set(1, 0, 32767)", 32767).due("set(1, 0, 32768)", -32768)
            .due("set(1, 0, -32768)", -32768).due("set(1, 0, -32769)", 32767)
            .due("set(2, 0, max)", Integer.MAX_VALUE).due("set(2, 0, min)", Integer.MIN_VALUE);
    }

    private static void items() {
        Run x = S.terms("and 0 to 40 ITEMS,");
        for (int lane = 0; lane < 3; lane++) {
            x.due("row(4, " + lane + ", 0)", 0).refused("set(4, 0, 5)", PLACE).refused("row(4, " + lane + ", -1)", SIZE)
                .due("row(4, " + lane + ", 1)", 1).due("set(4, 0, 5)", 5).refused("set(4, 1, 5)", PLACE)
                .due("row(4, " + lane + ", 39)", 39).refused("set(4, 39, 5)", PLACE)
                .due("row(4, " + lane + ", 40)", 40).due("set(4, 39, 5)", 5).refused("set(4, 40, 5)", PLACE)
                .refused("row(4, " + lane + ", 41)", BAD);
        }
        for (int lane = 0; lane < 3; lane++) {
            int[] ones = new int[40];
            Arrays.fill(ones, 1);
            S.terms("0 at first.").after("row(6, " + lane + ", 40)").holds(6, new int[40])
                .row(6, lane, ones).holds(6, ones)
                .due("row(6, " + lane + ", 40)", 40).holds(6, new int[40])
                .row(6, lane, ones).due("drop(6)", 40).due("row(6, " + lane + ", 3)", 3).holds(6, 0, 0, 0)
                .due("row(6, " + lane + ", 40)", 40).holds(6, new int[40]);
        }
    }

    private static void newObject() {
        Run x = S.promise(1, "No RIVER.");
        for (int what = 0; what < 8; what++) {
            x.due("count(" + what + ")", 0);
        }
        x.due("fault()", 0).due("status()", 0).due("trace(0)", NONE).refused("evening()", STATE).refused("kind(0)", BAD)
            .refused("lawn(0, 0)", BAD).refused("undo()", STATE).refused("restore(0)", STATE).refused("restore(1)", STATE);
    }

    private static void row() {
        S.promise(2, "A ROW of a LANE with n ITEMS, in place of what is there: n.").rich()
            .due("row(0, 2, 3)", 3).holds(0, 0, 0, 0).due("set(0, 0, max)", Integer.MAX_VALUE).due("count(0)", 5)
            .due("row(3, 1, 2)", 2).holds(3, 0, 0).due("count(0)", 6).holds(1, 5, 6, 7);
        S.promise(2, "BAD: ROW, LANE, n above 40;").rich()
            .due("row(0, 0, 1)", 1).refused("row(-1, 0, 1)", BAD).refused("row(min, 0, 1)", BAD)
            .due("row(7, 0, 1)", 1).refused("row(8, 0, 1)", BAD).refused("row(max, 0, 1)", BAD)
            .refused("row(0, -1, 1)", BAD).refused("row(0, min, 1)", BAD)
            .due("row(0, 2, 1)", 1).refused("row(0, 3, 1)", BAD).refused("row(0, max, 1)", BAD)
            .due("row(0, 0, 40)", 40).refused("row(0, 0, 41)", BAD).refused("row(0, 0, max)", BAD)
            .refused("row(8, 3, 41)", BAD).refused("row(0, 3, 41)", BAD);
        S.promise(2, "SIZE.").rich()
            .due("row(0, 0, 0)", 0).refused("row(0, 0, -1)", SIZE).refused("row(3, 2, -1)", SIZE).refused("row(0, 0, min)", SIZE);
    }

    private static void set() {
        S.promise(3, "ITEM i becomes v, its lowest bits, as many as the LANE has (read with their sign): what it is then.")
            .row(0, 0, 7, 7, 7).row(1, 1, 7, 7, 7).row(2, 2, 7, 7, 7)
            .due("set(0, 0, 259)", 3).holds(0, 3, 7, 7).due("set(0, 2, -255)", 1).holds(0, 3, 7, 1)
            .due("set(0, 1, 255)", -1).due("set(0, 1, 256)", 0).due("set(0, 1, min)", 0).due("set(0, 1, max)", -1)
            .due("set(1, 0, 65540)", 4).holds(1, 4, 7, 7).due("set(1, 2, -65534)", 2).holds(1, 4, 7, 2)
            .due("set(1, 1, 65535)", -1).due("set(1, 1, 65536)", 0).due("set(1, 1, min)", 0).due("set(1, 1, max)", -1)
            .due("set(1, 1, 128)", 128).due("set(1, 1, -129)", -129)
            .due("set(2, 0, 65541)", 65541).due("set(2, 1, -1)", -1).due("set(2, 2, 2)", 2)
            .due("set(2, 0, -1000001)", -1000001).due("set(2, 0, 5)", 5).due("set(2, 1, 6)", 6).holds(2, 5, 6, 2);
        S.promise(3, "BAD: ROW;").rich()
            .refused("set(-1, 0, 1)", BAD).refused("set(8, 0, 1)", BAD).refused("set(min, 0, 1)", BAD).refused("set(max, 0, 1)", BAD)
            .due("set(0, 0, 1)", 1).due("set(7, 0, 1)", 1);
        S.promise(3, "NULL;").rich().refused("set(3, 0, 1)", NULL).refused("set(6, 40, 1)", NULL);
        S.promise(3, "PLACE.").rich()
            .refused("set(0, -1, 1)", PLACE).refused("set(0, 4, 1)", PLACE).refused("set(0, min, 1)", PLACE)
            .refused("set(0, max, 1)", PLACE).refused("set(5, 0, 1)", PLACE).due("set(0, 0, 1)", 1).due("set(0, 3, 1)", 1);
    }

    private static void copy() {
        S.promise(4, "n ITEMS of a from i on come to b from j on,").row(0, 0, 1, 2, 3, 4).row(1, 0, 5, 6, 7)
            .due("copy(0, 1, 1, 0, 2)", 2).holds(1, 2, 3, 7).holds(0, 1, 2, 3, 4)
            .due("copy(1, 2, 0, 3, 1)", 1).holds(0, 1, 2, 3, 7)
            .due("copy(0, 4, 1, 3, 0)", 0).due("copy(0, 0, 1, 0, 0)", 0).holds(1, 2, 3, 7)
            .due("copy(1, 0, 0, 1, 3)", 3).holds(0, 1, 2, 3, 7);
        S.promise(4, "n.").row(0, 2, new int[40]).row(1, 2, new int[40]).due("copy(0, 0, 1, 0, 40)", 40).due("copy(0, 0, 0, 0, 40)", 40);
        S.promise(4, "BAD: ROWS;").rich()
            .refused("copy(-1, 0, 0, 0, 1)", BAD).refused("copy(8, 0, 0, 0, 1)", BAD).refused("copy(0, 0, -1, 0, 1)", BAD)
            .refused("copy(0, 0, 8, 0, 1)", BAD).refused("copy(min, 0, 0, 0, 1)", BAD).refused("copy(0, 0, max, 0, 1)", BAD)
            .due("copy(0, 0, 0, 0, 1)", 1).due("copy(7, 0, 7, 1, 1)", 1);
        S.promise(4, "NULL;").rich()
            .refused("copy(3, 0, 0, 0, 0)", NULL).refused("copy(0, 0, 3, 0, 0)", NULL).refused("copy(3, 0, 3, 0, 0)", NULL);
        S.promise(4, "STORE;").rich().after("drop(3)").refused("copy(0, 0, 1, 0, 0)", STORE).refused("copy(2, 0, 1, 0, 3)", STORE);
        S.promise(4, "PLACE (i, j, n below 0, or beyond an end).").rich().after("row(3, 0, 3)")
            .due("copy(0, 0, 3, 0, 3)", 3)
            .refused("copy(0, -1, 3, 0, 1)", PLACE).refused("copy(0, 0, 3, -1, 1)", PLACE).refused("copy(0, 1, 3, 1, -1)", PLACE)
            .refused("copy(0, -1, 3, 0, 0)", PLACE).refused("copy(0, 0, 3, -1, 0)", PLACE)
            .due("copy(0, 1, 3, 0, 3)", 3).refused("copy(0, 2, 3, 0, 3)", PLACE).refused("copy(0, 1, 3, 0, 4)", PLACE)
            .due("copy(0, 0, 3, 1, 2)", 2).refused("copy(0, 0, 3, 2, 2)", PLACE).refused("copy(0, 0, 3, 0, 4)", PLACE)
            .due("copy(0, 4, 3, 3, 0)", 0).refused("copy(0, 5, 3, 0, 0)", PLACE).refused("copy(0, 0, 3, 4, 0)", PLACE)
            .refused("copy(0, max, 3, 0, 1)", PLACE).refused("copy(0, 0, 3, max, 1)", PLACE).refused("copy(0, 1, 3, 1, max)", PLACE)
            .refused("copy(0, max, 3, max, max)", PLACE).refused("copy(0, min, 3, 0, 1)", PLACE)
            .refused("copy(0, 0, 3, min, 1)", PLACE).refused("copy(0, 0, 3, 0, min)", PLACE);
    }

    private static void copyOverlaps() {
        S.promise(4, "as they were ahead:").row(0, 1, 1, 2, 3, 4, 5)
            .due("copy(0, 0, 0, 1, 4)", 4).holds(0, 1, 1, 2, 3, 4);
        S.promise(4, "as they were ahead:").row(0, 2, 1, 2, 3, 4, 5)
            .due("copy(0, 1, 0, 0, 4)", 4).holds(0, 2, 3, 4, 5, 5)
            .due("copy(0, 0, 0, 0, 5)", 5).holds(0, 2, 3, 4, 5, 5);
        S.promise(4, "as they were ahead:").row(0, 0, 1, 2).row(1, 0, 3, 4)
            .due("copy(0, 0, 1, 0, 2)", 2).due("set(0, 0, 7)", 7).holds(1, 1, 2);
    }

    private static void drop() {
        S.promise(5, "A ROW is missing from now on: how many ITEMS it had.").rich()
            .due("drop(0)", 4).refused("set(0, 0, 1)", NULL).refused("drop(0)", NULL).due("count(0)", 4)
            .due("drop(5)", 0).refused("drop(5)", NULL).due("row(6, 0, 40)", 40).due("drop(6)", 40).due("drop(7)", 2).due("count(0)", 2);
        S.promise(5, "BAD;").rich().bounded("drop", Run.to(0, 7));
        S.promise(5, "NULL.").rich().refused("drop(3)", NULL).refused("drop(6)", NULL);
    }

    private static void status() {
        S.promise(41, "Of the latest call with a ROW, or as(), that was not BAD, STATE, FULL: the number of its FINDING;")
            .after("set(0, 0, 0)").due("status()", 1)
            .after("set(8, 0, 0)").due("status()", 1).after("which(0, 0, 1)").due("status()", 1)
            .row(0, 0, 4, 4).row(1, 2, 4, 4).due("status()", 0)
            .after("set(0, 2, 0)").due("status()", 2).after("row(0, 0, 41)", "drop(8)", "copy(0, 0, 8, 0, 1)").due("status()", 2)
            .after("row(0, 0, -1)").due("status()", 4).after("copy(0, 0, 1, 0, 1)").due("status()", 5)
            .tell("r5,0;b3,0,1;").due("status()", 5).after("days(1)", "ask(0, 0)", "days(0)", "as(1, 0)", "as(0, 6)").due("status()", 5)
            .after("as(0, 1)").due("status()", 3).after("drop(2)").due("status()", 1)
            .after("who(0, 0, 0, 0, 1, 2)").due("status()", 2).after("which(2, 0, 1)").due("status()", 1)
            .after("who(0, 0, 0, 0, 0, 0)", "which(0, 0, 13)").due("status()", 1);
        for (String fine : new String[] {"row(0, 0, 0)", "set(7, 0, 0)", "copy(0, 0, 0, 0, 0)", "drop(0)", "who(0, 0, 0, 7, 0, 1)",
            "which(7, 0, 1)", "as(0, 0)"}) {
            S.promise(41, "0: it had none, or there was none.").rich().due("status()", 5).after(fine).due("status()", 0);
        }
        S.promise(41, "0: it had none, or there was none.").due("status()", 0).after("drop(8)", "undo()", "days(1)").due("status()", 0);
    }
}
