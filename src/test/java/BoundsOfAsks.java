/** What the document says of images, kinds, asks and counts, a sentence at a time. */
final class BoundsOfAsks {
    private static final Sentences S = Sentences.ALL;
    private static final int NONE = SwanDeeds.NONE, BAD = SwanDeeds.BAD, STATE = SwanDeeds.STATE, KIND = Due.KIND;
    /** A pen, a cob, a cygnet, an old one, a black one, and a pen that has the least of all. */
    private static final String ALL = "r9,0;p8,0,9;c1,0,1;y2,0,5;o0,0,9;b4,0,1;p0,0,1;";

    static void all() {
        kindsOfSwans();
        trace();
        size();
        mark();
        askedOnce();
        whichBodyBegins();
        image();
        restore();
        kind();
        as();
        ask();
        traceNumbers();
        count();
    }

    private static void kindsOfSwans() {
        boolean[][] is = {
            {true, true, false, false, false, false},
            {true, true, true, false, false, false},
            {true, true, false, true, false, false},
            {true, false, false, false, true, false},
            {true, false, false, false, true, true}};
        String[] quotes = {"0 SWAN; 1 PEN, a SWAN;", "2 COB, a PEN;", "3 CYGNET, a PEN;", "4 OLD, a SWAN;", "5 BLACK, an OLD. By this it is asked."};
        for (int swan = 0; swan < 5; swan++) {
            Run x = S.terms(quotes[swan]).tell(ALL).due("kind(" + swan + ")", swan + 1);
            for (int kind = 0; kind < 6; kind++) {
                String call = "as(" + swan + ", " + kind + ")";
                if (is[swan][kind]) {
                    x.due(call, swan);
                } else {
                    x.refused(call, KIND);
                }
            }
        }
        S.terms("KINDS of SWANS:").tell(ALL).refused("as(0, -1)", BAD).refused("as(0, 6)", BAD);
    }

    private static Run asked(Run x, String call, int answer, int... bodies) {
        x.due(call, answer);
        for (int i = 0; i < bodies.length; i++) {
            x.due("trace(" + i + ")", bodies[i]);
        }
        return x.due("trace(" + bodies.length + ")", NONE).due("trace(15)", NONE).due("trace(16)", NONE);
    }

    private static void trace() {
        String quote = "ASKS of SWANS, by BODIES, each of which leaves its number in THE TRACE as it begins (the first 16):";
        asked(S.terms(quote).tell(ALL), "ask(1, 0)", -5, 12, 11, 10, 24, 21, 20);
        asked(S.terms(quote).tell(ALL), "ask(4, 1)", 202, 23, 20, 14, 13, 10);
    }

    private static void size() {
        asked(S.terms("0 SIZE: 10 lent to all SWANS: WEIGHT.").tell(ALL).after("weight(5, 7)"), "ask(5, 0)", 12, 11, 10, 21, 20);
        asked(S.terms("11 of PENS: what 10 gives, and MARK.").tell(ALL), "ask(0, 0)", 17, 11, 10, 21, 20);
        asked(S.terms("11 of PENS: what 10 gives, and MARK.").tell(ALL), "ask(5, 0)", 6, 11, 10, 21, 20);
        asked(S.terms("11 of PENS: what 10 gives, and MARK.").tell(ALL), "ask(2, 0)", -991, 11, 10, 22, 21, 20);
        asked(S.terms("12 of COBS: 0 less what 11 gives.").tell(ALL), "ask(1, 0)", -5, 12, 11, 10, 24, 21, 20);
        asked(S.terms("13 of OLD ones: what 10 gives, less 100.").tell(ALL), "ask(3, 0)", -91, 13, 10);
        asked(S.terms("14 of BLACK ones: twice what 13 gives (asked once).").tell(ALL), "ask(4, 0)", -198, 14, 13, 10);
    }

    private static void mark() {
        asked(S.terms("1 MARK: 20 lent to all SWANS: the number.").tell(ALL), "ask(5, 1)", 5, 21, 20);
        asked(S.terms("21 of PENS: what 20 gives, and on which LAWN it is.").tell(ALL), "ask(0, 1)", 8, 21, 20);
        asked(S.terms("21 of PENS: what 20 gives, and on which LAWN it is.").tell(ALL).after("frighten(5, 1)"), "ask(5, 1)", 6, 21, 20);
        asked(S.terms("22 of CYGNETS: what 21 gives, less 1000.").tell(ALL), "ask(2, 1)", -996, 22, 21, 20);
        asked(S.terms("23 of OLD ones: what 20 gives, less SIZE.").tell(ALL), "ask(3, 1)", 94, 23, 20, 13, 10);
        asked(S.terms("23 of OLD ones: what 20 gives, less SIZE.").tell(ALL), "ask(4, 1)", 202, 23, 20, 14, 13, 10);
        asked(S.terms("24 of COBS: twice what 21 gives (asked once).").tell(ALL), "ask(1, 1)", 4, 24, 21, 20);
    }

    private static void askedOnce() {
        asked(S.terms("(asked once)").tell("r2,0;c1,0,9;b0,0,9;"), "ask(0, 1)", 2, 24, 21, 20);
        asked(S.terms("(asked once)").tell("r2,0;c1,0,9;b0,0,9;"), "ask(1, 0)", -182, 14, 13, 10);
    }

    private static void whichBodyBegins() {
        String begins = "(Of an ask the BODY told for the KIND begins, else that of the nearest KIND that it is, too, else the one that is lent;";
        asked(S.terms(begins).tell(ALL), "ask(2, 0)", -991, 11, 10, 22, 21, 20);
        asked(S.terms(begins).tell(ALL), "ask(4, 1)", 202, 23, 20, 14, 13, 10);
        String anew = "SIZE, MARK within others are asked of the same SWAN anew.)";
        asked(S.terms(anew).tell(ALL), "ask(1, 0)", -5, 12, 11, 10, 24, 21, 20);
        asked(S.terms(anew).tell(ALL).after("weight(4, 9)"), "ask(4, 1)", 186, 23, 20, 14, 13, 10);
        asked(S.terms(anew).tell(ALL).after("as(2, 1)"), "ask(2, 0)", -991, 11, 10, 22, 21, 20);
    }

    private static void image() {
        S.promise(34, "An IMAGE (0, 1) is kept of the RIVER: 1.").tell("r3,1;o2,1,4;c0,2,5;").after("weir(0, 1)", "days(2)")
            .due("image(0)", 1).due("image(1)", 1).after("weir(0, 0)", "days(3)", "weight(1, 9)").crumbs(2, 4)
            .due("image(1)", 1).due("count(6)", 9).tell("r2,0;p0,0,1;")
            .due("restore(0)", 1).due("count(3)", 2).due("count(5)", 1).due("swan(1, 2)", 5).places(1, 0).breadLies(0, 0, 0)
            .due("restore(1)", 1).due("count(3)", 5).due("count(5)", 0).due("swan(1, 2)", 9).due("lawn(2, 0)", 4).due("swan(0, 1)", 1)
            .due("kind(1)", 2).due("image(0)", 1).tell("r2,0;p0,0,1;").due("restore(0)", 1).due("count(3)", 5);
        S.promise(34, "An IMAGE (0, 1) is kept of the RIVER: 1.").rich().due("image(0)", 1).due("image(1)", 1).due("image(1)", 1);
        S.promise(34, "BAD;").rich().bounded("image", Run.to(0, 1));
        S.promise(34, "BAD;").riverless().refused("image(-1)", BAD).refused("image(2)", BAD);
        S.promise(34, "STATE: no RIVER.").riverless().refused("image(0)", STATE).refused("image(1)", STATE);
    }

    private static void restore() {
        S.promise(35, "The RIVER is as an IMAGE kept it (no ACT can be undone then): 1.").settled().due("count(6)", 5)
            .due("restore(0)", 1).due("count(6)", 0).refused("undo()", STATE)
            .places(2, 1, 3, 4, 0, 3).breadLies(1, 1, 1, 1, 1).due("count(3)", 0).due("count(5)", 8).due("swan(1, 2)", 5)
            .due("days(1)", 5).due("count(6)", 1).due("restore(0)", 1).due("count(3)", 0).due("count(6)", 0).refused("undo()", STATE)
            .due("restore(1)", 1).due("count(1)", 4).due("count(2)", 1).due("count(5)", 0).places(0).breadLies(2, 2, 2, 2)
            .due("restore(0)", 1).due("count(1)", 5);
        S.promise(35, "The RIVER is as an IMAGE kept it (no ACT can be undone then): 1.").rich().due("restore(1)", 1).due("restore(0)", 1);
        S.promise(35, "BAD;").rich().bounded("restore", Run.to(0, 1));
        S.promise(35, "BAD;").riverless().refused("restore(-1)", BAD).refused("restore(2)", BAD);
        S.promise(35, "STATE: none was kept.").riverless().refused("restore(0)", STATE).refused("restore(1)", STATE);
        S.promise(35, "STATE: none was kept.").tell("r2,0;p0,0,1;").refused("restore(0)", STATE).due("image(1)", 1)
            .refused("restore(0)", STATE).due("restore(1)", 1);
        S.promise(35, "STATE: none was kept.").tell("r2,0;o1,0,1;").row(0, 0, 1, 2).after("bread(1, 2)", "days(1)", "ask(0, 1)", "drop(9)")
            .feed("r2,3;p1,").refused("restore(0)", STATE).refused("restore(1)", STATE).after("restore(0)", "restore(1)").due("undo()", 1);
        S.promise(35, "STATE: none was kept.").tell("r2,0;p0,0,1;").due("image(0)", 1).refused("restore(1)", STATE).due("restore(0)", 1);
    }

    private static void kind() {
        Run x = S.promise(36, "The KIND of a SWAN, as told (1 to 5).").tell("r2,0;b0,0,1;o0,0,1;y0,0,1;c0,0,1;p0,0,1;p0,0,1;");
        for (int swan = 0; swan < 5; swan++) {
            x.due("kind(" + swan + ")", 5 - swan);
        }
        x.after("as(0, 4)", "as(0, 0)").due("kind(0)", 5);
        S.promise(36, "The KIND of a SWAN, as told (1 to 5).").rich().due("kind(0)", 1).due("kind(5)", 2);
        S.promise(36, "BAD.").rich().bounded("kind", Run.to(0, 5));
        S.promise(36, "BAD.").riverless().refused("kind(0)", BAD);
    }

    private static void as() {
        S.promise(37, "A SWAN is taken as one of a KIND (0 .. 5): the SWAN's number.").tell(ALL).due("as(0, 0)", 0).due("as(4, 5)", 4)
            .due("as(4, 0)", 4).due("as(5, 1)", 5).due("kind(5)", 1).due("kind(4)", 5);
        S.promise(37, "A SWAN is taken as one of a KIND (0 .. 5): the SWAN's number.").rich().due("as(4, 4)", 4).due("as(1, 1)", 1);
        S.promise(37, "BAD;").rich().bounded("as", Run.to(0, 5), Run.to(0, 5));
        S.promise(37, "BAD;").riverless().refused("as(0, 0)", BAD);
        S.promise(37, "KIND: it is no such one.").rich().refused("as(0, 2)", KIND).refused("as(0, 5)", KIND).refused("as(4, 1)", KIND)
            .refused("as(3, 5)", KIND).refused("as(2, 2)", KIND).refused("as(1, 3)", KIND);
    }

    private static void ask() {
        S.promise(38, "An ASK (0, 1) of a SWAN.").tell(ALL).due("ask(0, 0)", 17).due("ask(0, 1)", 8).due("ask(5, 0)", 6).due("ask(5, 1)", 5);
        S.promise(38, "An ASK (0, 1) of a SWAN.").rich().due("ask(0, 0)", 5).due("ask(3, 0)", -98).due("ask(4, 0)", -188);
        S.promise(38, "BAD.").rich().bounded("ask", Run.to(0, 5), Run.to(0, 1));
        S.promise(38, "BAD.").riverless().refused("ask(0, 0)", BAD);
        Run x = S.promise(38, "THE TRACE is empty ahead of it").tell(ALL);
        asked(x, "ask(1, 0)", -5, 12, 11, 10, 24, 21, 20);
        asked(x, "ask(0, 1)", 8, 21, 20);
        asked(x, "ask(3, 0)", -91, 13, 10);
        S.promise(38, "(where that is refused it stays).").tell(ALL).due("ask(4, 0)", -198)
            .refused("ask(6, 0)", BAD).refused("ask(-1, 1)", BAD).refused("ask(0, 2)", BAD).refused("ask(0, -1)", BAD)
            .after("ask(6, 0)", "ask(0, 2)").due("trace(0)", 14).due("trace(1)", 13).due("trace(2)", 10).due("trace(3)", NONE);
    }

    private static void traceNumbers() {
        S.promise(39, "Number i of THE TRACE; NONE.").due("trace(0)", NONE).due("trace(-1)", NONE).tell(ALL).due("trace(0)", NONE)
            .after("ask(1, 0)").due("trace(0)", 12).due("trace(5)", 20).due("trace(6)", NONE).due("trace(-1)", NONE).due("trace(15)", NONE)
            .due("trace(16)", NONE).due("trace(min)", NONE).due("trace(max)", NONE)
            .after("as(0, 0)", "days(1)", "undo()", "image(0)", "restore(0)").due("trace(0)", 12).due("trace(5)", 20)
            .tell("r2,0;p0,0,1;").due("trace(5)", 20).due("trace(6)", NONE);
    }

    private static void count() {
        S.promise(40, "How many: 0 ROWS that are not missing, 1 LAWNS, 2 SWANS, 3 DAY, 4 all CRUMBS,").rich()
            .due("count(0)", 5).due("count(1)", 5).due("count(2)", 6).due("count(3)", 2).after("row(3, 0, 0)").due("count(0)", 6)
            .after("drop(3)", "drop(0)").due("count(0)", 4);
        S.promise(40, "4 all CRUMBS,").tell("r9,9;p0,0,1;").due("count(4)", 81).due("bread(8, 1)", 10).due("count(4)", 82)
            .due("days(1)", 1).due("count(4)", 81);
        S.promise(40, "5 WEIRS (bits), 6 ACTS that can be undone, 7 bytes on the tape.").rich().due("count(5)", 8).due("count(6)", 5).due("count(7)", 8)
            .due("weir(0, 1)", 9).due("count(5)", 9).due("count(6)", 6).due("feed(0)", 9).due("count(7)", 9);
        S.promise(40, "6 ACTS that can be undone, 7 bytes on the tape.").full().due("count(6)", 24).due("count(7)", 100).due("count(3)", 999);
        S.promise(40, "BAD.").rich().bounded("count", Run.to(0, 7));
        S.promise(40, "BAD.").riverless().bounded("count", Run.to(0, 7));
        S.promise(40, "BAD.").bounded("count", Run.to(0, 7));
    }
}
