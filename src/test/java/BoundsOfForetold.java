/** What the document foretells, a sentence at a time: the first day and the last, the fewest and the most, and none. */
final class BoundsOfForetold {
    private static final Sentences S = Sentences.ALL;
    private static final int NONE = SwanDeeds.NONE, BAD = SwanDeeds.BAD, STATE = SwanDeeds.STATE;
    private static final int NULL = Due.NULL, PLACE = Due.PLACE;

    static void all() {
        nothingChanges();
        ahead();
        owns();
        nobody();
        moves();
        evening();
        stays();
        crusts();
        fewestCrusts();
        weirs();
        fewestWeirs();
        hold();
        meet();
        fights();
        doubles();
        rowsOfDays();
        kinds();
        began();
        weights();
        who();
        which();
        hungry();
        sink();
        drawn();
    }

    /** An old one on the upper of two lawns: it stays as many days as crumbs lie there, and is gone a day later. */
    private static Run leaves(Run x, int crumbs) {
        return x.tell("r2,0;o1,0,1;").crumbs(1, crumbs);
    }

    private static void nothingChanges() {
        String[] calls = {"ahead(0, 60)", "owns(0, 60)", "nobody(60)", "moves(0)", "evening()", "stays(0, 0, 60)", "crusts(0, 0, 20, 0)",
            "crusts(0, 4, 20, 1)", "weirs(0, 0, 20, 0)", "weirs(0, 4, 20, 1)", "hold(0, 0)", "hold(0, 1)", "meet(0, 1)", "fights(60)",
            "doubles(0)", "doubles(1)", "who(0, 0, 1, 0, 0, 4)", "who(0, 1, 1, 0, 0, 4)", "who(0, 2, 1, 0, 0, 4)", "who(0, 0, 0, 2, 0, 5)",
            "which(0, 0, 4)", "hungry(60)", "sink(0, 0, 5, 0)", "sink(0, 4, 10, 1)", "drawn(60, 1, 0)", "drawn(60, 999999, 1)",
            "swan(0, 3)", "lawn(0, 3)", "count(4)", "kind(0)", "trace(0)", "fault()", "status()"};
        for (String call : calls) {
            S.terms("FORETOLD (nothing changes).").rich().taken(call);
        }
        // what is kept, and another river, on which all swans come to be on one lawn
        S.terms("FORETOLD (nothing changes).").settled().tell("r3,0;o2,0,1;o0,0,1;").after("bread(2, 1)").feed("r2,3;p1,")
            .due("evening()", 3).due("meet(0, 1)", 3).due("moves(0)", 2).due("hold(0, 1)", 10);
    }

    private static void ahead() {
        String quote = "AHEAD by n DAYS (0 to 60): on which LAWN a SWAN is;";
        leaves(S.terms(quote), 59).due("ahead(0, 0)", 1).due("ahead(0, 1)", 1).due("ahead(0, 59)", 1).due("ahead(0, 60)", 0)
            .refused("ahead(0, 61)", BAD).refused("ahead(0, -1)", BAD);
        leaves(S.terms(quote), 0).due("ahead(0, 0)", 1).due("ahead(0, 1)", 0);
        S.promise(17, "AHEAD: on which LAWN.").tell("r9,0;o8,0,1;b0,0,1;c4,0,1;c4,0,2;").due("ahead(0, 0)", 8).due("ahead(0, 7)", 1)
            .due("ahead(0, 8)", 0).due("ahead(0, 9)", 0).due("ahead(1, 7)", 7).due("ahead(1, 8)", 8).due("ahead(1, 60)", 8)
            .due("ahead(2, 0)", 4).due("ahead(2, 1)", 3).due("ahead(3, 60)", 4).due("days(2)", 4).due("ahead(0, 0)", 6).due("ahead(0, 1)", 5);
        S.promise(17, "BAD.").rich().bounded("ahead", Run.to(0, 5), Run.to(0, 60));
        S.promise(17, "BAD.").riverless().refused("ahead(0, 0)", BAD);
    }

    private static void owns() {
        String quote = "PLOTS (bits) that a FAMILY OWNS.";
        leaves(S.terms(quote), 59).due("owns(1, 0)", 1).due("owns(0, 0)", 0).due("owns(1, 59)", 1).due("owns(0, 59)", 0)
            .due("owns(1, 60)", 0).due("owns(0, 60)", 1).refused("owns(1, 61)", BAD).refused("owns(1, -1)", BAD);
        S.promise(18, "AHEAD: PLOTS.").tell("r9,0;o8,8,1;b0,0,1;o7,8,1;o8,3,1;").due("owns(8, 0)", 264).due("owns(0, 0)", 1)
            .due("owns(7, 1)", 264).due("owns(6, 1)", 256).due("owns(0, 7)", 256).due("owns(0, 8)", 264).due("owns(8, 8)", 1).due("owns(4, 4)", 265);
        S.promise(18, "BAD.").rich().bounded("owns", Run.to(0, 4), Run.to(0, 60));
        S.promise(18, "BAD.").riverless().refused("owns(0, 0)", BAD);
    }

    private static void nobody() {
        String quote = "NOBODY behind n DAYS (0 to 60): FAMILIES (bits) that OWN nothing.";
        leaves(S.terms(quote), 59).due("nobody(0)", 1).due("nobody(59)", 1).due("nobody(60)", 2)
            .refused("nobody(61)", BAD).refused("nobody(-1)", BAD);
        S.promise(19, "NOBODY.").tell("r9,0;o8,0,1;b0,0,1;").due("nobody(0)", 254).due("nobody(1)", 381).due("nobody(4)", 495).due("nobody(60)", 254);
        S.promise(19, "NOBODY.").tell("r2,0;o1,0,1;p0,0,1;").due("nobody(0)", 0).due("nobody(1)", 2);
        S.promise(19, "BAD;").rich().bounded("nobody", Run.to(0, 60));
        S.promise(19, "STATE: no RIVER (ahead of BAD).").riverless().refused("nobody(0)", STATE).refused("nobody(60)", STATE)
            .refused("nobody(-1)", STATE).refused("nobody(61)", STATE);
    }

    private static void moves() {
        String quote = "MOVES: behind how many DAYS (1 to 60) a SWAN is on another LAWN than now first; NONE.";
        leaves(S.terms(quote), 0).due("moves(0)", 1);
        leaves(S.terms(quote), 1).due("moves(0)", 2);
        leaves(S.terms(quote), 58).due("moves(0)", 59);
        leaves(S.terms(quote), 59).due("moves(0)", 60);
        leaves(S.terms(quote), 60).due("moves(0)", NONE).due("days(1)", 1).due("moves(0)", 60);
        S.promise(20, "MOVES; NONE.").tell("r4,0;p1,0,1;c1,0,1;c1,0,1;o0,0,1;b3,0,1;").crumbs(2, 2)
            .due("moves(0)", 1).due("moves(1)", 1).due("moves(2)", NONE).due("moves(3)", NONE).due("moves(4)", NONE);
        S.promise(20, "MOVES; NONE.").tell("r3,0;c1,0,1;c1,0,2;").due("moves(0)", 1).due("moves(1)", NONE);
        S.promise(20, "BAD.").rich().bounded("moves", Run.to(0, 5));
        S.promise(20, "BAD.").riverless().refused("moves(0)", BAD);
    }

    private static void evening() {
        String quote = "EVENING: behind how many DAYS (0: now; 60 at most) all SWANS are on one LAWN first; NONE.";
        S.terms(quote).tell("r9,0;p8,0,1;").due("evening()", 0);
        S.terms(quote).tell("r3,0;o2,0,1;b2,0,1;").due("evening()", 0).due("days(1)", 2).due("evening()", NONE);
        S.terms(quote).tell("r2,0;o1,0,1;o0,0,1;").due("evening()", 1).crumbs(1, 58).due("evening()", 59).crumbs(1, 1).due("evening()", 60)
            .crumbs(1, 1).due("evening()", NONE).due("days(1)", 2).due("evening()", 60);
        S.promise(21, "EVENING; NONE.").tell("r5,0;o4,0,1;b0,0,1;").due("evening()", 2).due("days(3)", 2).due("evening()", NONE);
        S.promise(21, "EVENING; NONE.").tell("r4,0;o3,0,1;b0,0,1;").due("evening()", NONE);
        S.promise(21, "EVENING; NONE.").tell("r3,0;p1,0,1;p1,0,1;p0,0,1;").due("evening()", NONE);
        S.promise(21, "STATE: no RIVER.").refused("evening()", STATE);
        S.promise(21, "STATE: no RIVER.").riverless().refused("evening()", STATE);
    }

    private static void stays() {
        String quote = "STAYS in n DAYS (1 to 60): behind how many of them a SWAN is on a told LAWN.";
        leaves(S.terms(quote), 59).due("stays(0, 1, 1)", 1).due("stays(0, 0, 1)", 0).due("stays(0, 1, 59)", 59).due("stays(0, 0, 59)", 0)
            .due("stays(0, 1, 60)", 59).due("stays(0, 0, 60)", 1).refused("stays(0, 1, 61)", BAD).refused("stays(0, 1, 0)", BAD);
        leaves(S.terms(quote), 0).due("stays(0, 1, 1)", 0).due("stays(0, 0, 1)", 1).due("stays(0, 0, 60)", 60);
        leaves(S.terms(quote), 60).due("stays(0, 1, 60)", 60);
        S.promise(22, "STAYS.").tell("r9,0;b0,0,1;").due("stays(0, 8, 8)", 1).due("stays(0, 8, 9)", 2).due("stays(0, 8, 7)", 0)
            .due("stays(0, 4, 60)", 1).due("stays(0, 0, 60)", 0);
        S.promise(22, "BAD.").rich().bounded("stays", Run.to(0, 5), Run.to(0, 4), Run.to(1, 60));
        S.promise(22, "BAD.").riverless().refused("stays(0, 0, 1)", BAD);
    }

    private static Run crustsAre(Run x, int lawn, int n, int size, int set) {
        return x.due("crusts(0, " + lawn + ", " + n + ", 0)", size).due("crusts(0, " + lawn + ", " + n + ", 1)", set);
    }

    private static void crusts() {
        String days = "CRUSTS for a SWAN, a LAWN, n DAYS (1 to 20):";
        Run x = leaves(S.terms(days), 11);
        crustsAre(x, 1, 1, 0, 0);
        crustsAre(x, 1, 20, 1, 2);
        x.refused("crusts(0, 1, 21, 0)", BAD).refused("crusts(0, 1, 0, 0)", BAD);
        Run y = leaves(S.terms(days), 10);
        crustsAre(y, 1, 19, 1, 2);
        crustsAre(y, 1, 20, NONE, NONE);
        crustsAre(y, 0, 20, 0, 0);
        crustsAre(y, 0, 10, NONE, NONE);
        S.promise(23, "CRUSTS: how many (what = 0), which (1); NONE.").tell("r9,0;o8,0,1;").due("crusts(0, 8, 1, 0)", 1)
            .due("crusts(0, 8, 1, 1)", 256).due("crusts(0, 0, 7, 0)", NONE).due("crusts(0, 0, 7, 1)", NONE);
        S.promise(23, "BAD.").rich().bounded("crusts", Run.to(0, 5), Run.to(0, 4), Run.to(1, 20), Run.to(0, 1));
        S.promise(23, "BAD.").riverless().refused("crusts(0, 0, 1, 0)", BAD);
    }

    private static void fewestCrusts() {
        Run none = leaves(S.terms("the fewest LAWNS (none, too) on which,"), 20);
        crustsAre(none, 1, 20, 0, 0);
        crustsAre(none, 0, 20, NONE, NONE);
        // four off is out of sight: lawn 2 leads it on to where lawn 4 is seen
        crustsAre(S.terms("the fewest LAWNS (none, too) on which,").tell("r5,0;p0,0,1;"), 4, 4, 2, 20);
        // the pen eats with the old one, unless there is as much to eat on the other lawn
        Run both = S.terms("the fewest LAWNS (none, too) on which,").tell("r2,0;o1,0,1;p1,0,1;");
        crustsAre(both, 1, 5, 1, 2);
        crustsAre(both, 1, 6, 2, 3);
        crustsAre(both, 1, 9, 2, 3);
        crustsAre(both, 1, 10, NONE, NONE);
        Run nine = leaves(S.terms("9 CRUMBS thrown on each now"), 0);
        crustsAre(nine, 1, 9, 1, 2);
        crustsAre(nine, 1, 10, NONE, NONE);
        String most = "(99 lie there at most),";
        crustsAre(S.terms(most).tell("r3,0;p1,0,1;").crumbs(0, 98).crumbs(2, 97), 2, 1, 1, 4);
        crustsAre(S.terms(most).tell("r3,0;p1,0,1;").crumbs(0, 99).crumbs(2, 97), 2, 1, NONE, NONE);
        crustsAre(S.terms(most).tell("r3,0;p1,0,1;").crumbs(0, 90).crumbs(2, 89), 2, 1, 1, 4);
        crustsAre(S.terms(most).tell("r3,0;p1,0,1;").crumbs(0, 99).crumbs(2, 99), 0, 1, 0, 0);
        crustsAre(S.terms("it is there behind them: how many;").tell("r3,0;o2,0,1;"), 1, 1, 0, 0);
        crustsAre(S.terms("it is there behind them: how many;").tell("r3,0;o2,0,1;"), 0, 2, 0, 0);
        String least = "which (bits), of several the least; NONE.";
        crustsAre(S.terms(least).tell("r5,0;p2,0,1;"), 1, 1, 1, 1);
        crustsAre(S.terms(least).tell("r5,0;p2,0,1;"), 3, 1, 1, 8);
        crustsAre(S.terms(least).tell("r5,0;p2,0,1;"), 4, 2, 1, 16);
        crustsAre(S.terms(least).tell("r9,0;b0,0,1;"), 8, 9, 0, 0);
        crustsAre(S.terms(least).tell("r9,0;b0,0,1;"), 0, 9, 1, 1);
        crustsAre(S.terms(least).tell("r9,0;b0,0,1;"), 8, 7, NONE, NONE);
    }

    private static Run weirsAre(Run x, int lawn, int n, int size, int set) {
        return x.due("weirs(0, " + lawn + ", " + n + ", 0)", size).due("weirs(0, " + lawn + ", " + n + ", 1)", set);
    }

    private static void weirs() {
        String quote = "WEIRS, likewise:";
        Run x = leaves(S.terms(quote), 19);
        weirsAre(x, 1, 19, 0, 0);
        weirsAre(x, 1, 20, 1, 1);
        weirsAre(x, 0, 20, 0, 0);
        x.refused("weirs(0, 1, 21, 0)", BAD).refused("weirs(0, 1, 0, 0)", BAD);
        Run y = leaves(S.terms(quote), 0);
        weirsAre(y, 0, 1, 0, 0);
        weirsAre(y, 1, 1, 1, 1);
        S.promise(24, "WEIRS: how many (what = 0), which (1); NONE.").tell("r9,0;b7,0,1;").due("weirs(0, 7, 1, 0)", 1)
            .due("weirs(0, 7, 1, 1)", 128).due("weirs(0, 0, 1, 0)", NONE).due("weirs(0, 0, 1, 1)", NONE);
        S.promise(24, "BAD.").rich().bounded("weirs", Run.to(0, 5), Run.to(0, 4), Run.to(1, 20), Run.to(0, 1));
        S.promise(24, "BAD.").riverless().refused("weirs(0, 0, 1, 0)", BAD);
    }

    private static void fewestWeirs() {
        String more = "the fewest WEIRS (more than there are) built now: how many;";
        Run pen = S.terms(more).tell("r3,0;p1,0,1;").crumbs(0, 1).crumbs(2, 1);
        weirsAre(pen, 0, 1, 0, 0);
        weirsAre(pen, 2, 1, 1, 1);
        weirsAre(pen, 1, 1, 2, 3);
        pen.due("weir(0, 1)", 1);
        weirsAre(pen, 1, 1, 1, 2);
        weirsAre(pen, 2, 1, 0, 0);
        weirsAre(pen, 0, 1, NONE, NONE);
        pen.due("weir(1, 1)", 3);
        weirsAre(pen, 1, 1, 0, 0);
        weirsAre(pen, 2, 1, NONE, NONE);
        String which = "between which and the next (bits), of several the least; NONE.";
        weirsAre(S.terms(which).tell("r5,0;p2,0,1;").crumbs(4, 1), 2, 1, 1, 4);
        weirsAre(S.terms(which).tell("r5,0;p2,0,1;").crumbs(0, 1), 2, 1, 1, 1);
        weirsAre(S.terms(which).tell("r5,0;p2,0,1;").crumbs(0, 2).crumbs(4, 1), 3, 1, 1, 1);
        weirsAre(S.terms(which).tell("r5,0;p2,0,1;").crumbs(0, 2).crumbs(4, 1), 2, 1, 2, 5);
        weirsAre(S.terms(which).tell("r9,0;b0,0,1;"), 7, 9, 1, 128);
        weirsAre(S.terms(which).tell("r9,0;o8,0,1;"), 8, 1, 1, 128);
        weirsAre(S.terms(which).tell("r9,0;o8,0,1;"), 8, 20, 1, 128);
        weirsAre(S.terms(which).tell("r9,0;o0,0,1;"), 1, 20, NONE, NONE);
    }

    private static Run holdIs(Run x, int swan, int lawn, int days) {
        return x.due("hold(" + swan + ", 0)", lawn).due("hold(" + swan + ", 1)", days);
    }

    private static void hold() {
        String quote = "HOLD for a SWAN: the LAWN on which 9 CRUMBS, thrown now, let it be longest where it is";
        holdIs(S.terms(quote).tell("r9,0;o8,0,1;"), 0, 8, 9);
        holdIs(S.terms(quote).tell("r9,0;b0,0,1;"), 0, 0, 9);
        holdIs(S.terms(quote).tell("r3,0;p1,0,1;"), 0, 1, 60);
        holdIs(S.terms(quote).tell("r3,0;o1,0,1;p1,0,1;").crumbs(1, 2), 0, 1, 6);
        // only if the heavier cob swims off is the lighter one not sent down: lawn 1 is the first to draw it alone
        holdIs(S.terms(quote).tell("r5,0;c2,0,9;c2,0,1;"), 1, 1, 60);
        // 99 lie there at most: by five more it would be there a day longer than by what is thrown elsewhere
        holdIs(S.terms(quote).tell("r2,0;o1,0,1;o1,0,1;o1,0,1;o1,0,1;o1,0,1;o1,0,1;").crumbs(1, 95), 3, 0, 16);
        holdIs(S.terms(quote).tell("r2,0;o1,0,1;o1,0,1;o1,0,1;o1,0,1;o1,0,1;o1,0,1;").crumbs(1, 95), 2, 1, 17);
        String days = "(DAYS ahead of the first on which it is elsewhere, 60 at most),";
        holdIs(leaves(S.terms(days), 49), 0, 1, 58);
        holdIs(leaves(S.terms(days), 50), 0, 1, 59);
        holdIs(leaves(S.terms(days), 51), 0, 1, 60);
        holdIs(leaves(S.terms(days), 52), 0, 1, 60);
        holdIs(leaves(S.terms(days), 60), 0, 0, 60);
        holdIs(leaves(S.terms(days), 99), 0, 0, 60);
        holdIs(S.terms(days).tell("r3,0;p1,0,1;").crumbs(0, 30), 0, 0, 0);
        String first = "of several the first; how long.";
        holdIs(S.terms(first).tell("r3,0;o0,0,1;b2,0,1;"), 0, 0, 60);
        holdIs(S.terms(first).tell("r3,0;o0,0,1;b2,0,1;"), 1, 0, 60);
        holdIs(S.terms(first).tell("r5,0;y2,0,1;").crumbs(2, 60), 0, 0, 60);
        holdIs(S.terms(first).tell("r5,0;p0,0,1;"), 0, 0, 60);
        S.promise(25, "HOLD: which (what = 0), how long (1).").tell("r2,0;o1,0,1;").due("hold(0, 0)", 1).due("hold(0, 1)", 9);
        S.promise(25, "BAD.").rich().bounded("hold", Run.to(0, 5), Run.to(0, 1));
        S.promise(25, "BAD.").riverless().refused("hold(0, 0)", BAD);
    }

    private static void meet() {
        String quote = "MEET of two SWANS: behind how many DAYS (0 to 60) they are on one LAWN first; NONE.";
        S.terms(quote).tell("r2,0;p1,0,1;p1,0,1;").due("meet(0, 1)", 0).due("meet(1, 0)", 0);
        S.terms(quote).tell("r2,0;o1,0,1;o0,0,1;b1,0,1;").due("meet(0, 1)", 1).due("meet(0, 2)", 0).due("meet(1, 2)", NONE);
        S.terms(quote).tell("r2,0;o1,0,1;o0,0,1;").crumbs(1, 58).due("meet(0, 1)", 59).crumbs(1, 1).due("meet(0, 1)", 60).due("meet(1, 0)", 60)
            .crumbs(1, 1).due("meet(0, 1)", NONE).due("days(1)", 2).due("meet(0, 1)", 60);
        S.promise(26, "MEET; NONE.").tell("r5,0;o4,0,1;b0,0,1;p0,0,1;").due("meet(0, 1)", 2).due("meet(0, 2)", 4).due("meet(1, 2)", 0)
            .due("days(1)", 3).due("meet(1, 2)", NONE);
        S.promise(26, "BAD: alike, too.").rich().refused("meet(-1, 0)", BAD).refused("meet(6, 0)", BAD).refused("meet(0, -1)", BAD)
            .refused("meet(0, 6)", BAD).refused("meet(min, 0)", BAD).refused("meet(max, 0)", BAD).refused("meet(0, min)", BAD)
            .refused("meet(0, max)", BAD).refused("meet(0, 0)", BAD).refused("meet(5, 5)", BAD).refused("meet(6, 6)", BAD)
            .taken("meet(0, 5)").taken("meet(5, 0)").due("meet(1, 1)", BAD);
        S.promise(26, "BAD: alike, too.").riverless().refused("meet(0, 1)", BAD).refused("meet(0, 0)", BAD);
    }

    private static void fights() {
        String quote = "FIGHTS in n DAYS (1 to 60): how often a cob has to swim down, or would, if it could.";
        S.terms(quote).tell("r2,0;c0,0,1;c0,0,2;").due("fights(1)", 1).due("fights(2)", 2).due("fights(59)", 59).due("fights(60)", 60)
            .refused("fights(0)", BAD).refused("fights(61)", BAD).due("days(3)", 1).due("fights(1)", 1).due("fights(60)", 60);
        S.terms(quote).tell("r2,0;c1,0,1;c1,0,2;").due("fights(60)", 1).due("weir(0, 1)", 1).due("fights(60)", 60);
        S.promise(27, "FIGHTS.").tell("r2,0;c0,0,1;c0,0,1;c0,0,1;c0,0,1;c0,0,1;c0,0,1;").due("fights(1)", 5).due("fights(60)", 300);
        S.promise(27, "FIGHTS.").tell("r3,0;c2,0,1;c2,0,2;c2,0,3;").due("fights(1)", 2).due("fights(2)", 3).due("fights(60)", 3)
            .due("days(1)", 2).due("fights(1)", 1).due("fights(60)", 1).due("days(1)", 3).due("fights(60)", 0);
        S.promise(27, "BAD;").rich().bounded("fights", Run.to(1, 60));
        S.promise(27, "STATE: no RIVER (ahead of BAD).").riverless().refused("fights(1)", STATE).refused("fights(60)", STATE)
            .refused("fights(0)", STATE).refused("fights(61)", STATE);
    }

    private static void doublesAre(Run x, int pairs, int first) {
        x.due("doubles(0)", pairs).due("doubles(1)", first);
    }

    private static void doubles() {
        String quote = "DOUBLE: pairs of SWANS that bear the same PLOT: how many; the first (10 times the lesser, and the greater); NONE.";
        doublesAre(S.terms(quote).tell("r9,0;p0,0,1;"), 0, NONE);
        doublesAre(S.terms(quote).tell("r9,0;p0,0,1;p0,1,1;p0,2,1;p0,3,1;p0,4,1;p0,8,1;"), 0, NONE);
        doublesAre(S.terms(quote).tell("r9,0;p0,0,1;p8,0,2;"), 1, 1);
        doublesAre(S.terms(quote).tell("r9,0;p0,0,1;p0,1,1;p0,2,1;p0,3,1;p0,8,1;p0,8,1;"), 1, 45);
        doublesAre(S.terms(quote).tell("r9,0;p0,8,1;p0,1,1;p0,2,1;p0,3,1;p0,4,1;p0,8,1;"), 1, 5);
        doublesAre(S.terms(quote).tell("r9,0;p0,1,1;p0,2,1;p0,3,1;p0,3,1;p0,2,1;p0,1,1;"), 3, 5);
        doublesAre(S.terms(quote).tell("r9,0;p0,4,1;p0,2,1;p0,3,1;p0,2,1;p0,3,1;p0,2,1;"), 4, 13);
        doublesAre(S.terms(quote).tell("r9,0;p0,4,1;p0,4,1;p0,4,1;p0,4,1;p0,4,1;p0,4,1;"), 15, 1);
        S.promise(28, "DOUBLE: how many (what = 0), the first (1; NONE).").tell("r2,0;p0,1,1;p0,0,1;p0,0,1;").due("doubles(0)", 1).due("doubles(1)", 12);
        S.promise(28, "BAD;").rich().bounded("doubles", Run.to(0, 1));
        S.promise(28, "STATE: no RIVER (ahead of BAD).").riverless().refused("doubles(0)", STATE).refused("doubles(1)", STATE)
            .refused("doubles(-1)", STATE).refused("doubles(2)", STATE);
    }

    /** A black one from lawn 0 up to lawn 8, where it stays. */
    private static Run rises(Run x) {
        return x.tell("r9,0;b0,0,1;").row(0, 0, 1, 2, 3, 4, 5, 6, 7, 8, 8, 8, 8, 8, 7);
    }

    private static void rowsOfDays() {
        String quote = "A row tells on which LAWN a SWAN is behind each of n DAYS (1 to 12) from now on.";
        rises(S.terms(quote)).due("which(0, 0, 1)", 1).due("which(0, 0, 11)", 1).due("which(0, 0, 12)", 1).refused("which(0, 0, 13)", BAD)
            .refused("which(0, 0, 0)", BAD).due("who(0, 0, 0, 0, 0, 1)", 32).due("who(0, 0, 0, 0, 0, 12)", 32)
            .refused("who(0, 0, 0, 0, 0, 13)", BAD).refused("who(0, 0, 0, 0, 0, 0)", BAD)
            .due("which(0, 1, 12)", 0).due("days(1)", 1).due("which(0, 1, 11)", 1).due("which(0, 1, 12)", 0).due("which(0, 0, 1)", 0);
        rises(S.terms(quote)).due("set(0, 11, 7)", 7).due("which(0, 0, 11)", 1).due("which(0, 0, 12)", 0)
            .due("who(0, 0, 0, 0, 0, 11)", 32).due("who(0, 0, 0, 0, 0, 12)", 0);
        rises(S.terms(quote)).due("set(0, 0, 0)", 0).due("which(0, 0, 1)", 0).due("set(0, 0, 257)", 1).due("which(0, 0, 12)", 1)
            .due("set(0, 5, -1)", -1).due("which(0, 0, 12)", 0);
        S.terms(quote).tell("r2,0;p1,0,1;").row(1, 1, 1, 65537, -65535, 2, -1).due("which(1, 0, 3)", 1).due("which(1, 3, 1)", 0).due("which(1, 4, 1)", 0);
        S.terms(quote).tell("r2,0;p1,0,1;").row(1, 2, 1, 65537, 257, 1).due("which(1, 0, 1)", 1).due("which(1, 1, 1)", 0)
            .due("which(1, 2, 1)", 0).due("which(1, 3, 1)", 1);
    }

    private static void kinds() {
        S.terms("KINDS (bits 1 to 5),").tell("r3,9;p1,0,1;").row(0, 0, 1, 1, 0, 2).due("who(0, 0, 0, 0, 0, 1)", 62)
            .due("who(0, 0, 0, 0, 2, 1)", 0).due("who(0, 0, 0, 0, 3, 1)", 0);
        S.terms("KINDS (bits 1 to 5),").tell("r3,0;p1,0,1;").row(0, 0, 0, 1, 2).due("who(0, 0, 0, 0, 0, 1)", 16)
            .due("who(0, 0, 0, 0, 1, 1)", 14).due("who(0, 0, 0, 0, 2, 1)", 32);
        S.terms("KINDS (bits 1 to 5),").tell("r5,0;p2,0,1;c1,0,1;").crumbs(1, 2).crumbs(3, 1).row(0, 0, 1, 3, 2)
            .due("who(0, 0, 0, 0, 0, 1)", 26).due("who(0, 0, 0, 0, 1, 1)", 36).due("who(0, 0, 0, 0, 2, 1)", 0);
    }

    private static void began() {
        S.terms("BEGAN (LAWNS where it were now, bits),").tell("r9,0;p4,0,1;").row(0, 0, 0, 8, 7, -1, 9).due("who(0, 1, 0, 0, 0, 1)", 1)
            .due("who(0, 1, 0, 0, 1, 1)", 256).due("who(0, 1, 0, 0, 2, 1)", 128).due("who(0, 1, 0, 0, 3, 1)", 0).due("who(0, 1, 0, 0, 4, 1)", 0);
        S.terms("BEGAN (LAWNS where it were now, bits),").tell("r9,0;o4,0,1;").row(0, 0, 0, 8, 7).due("who(0, 1, 0, 0, 0, 1)", 3)
            .due("who(0, 1, 0, 0, 1, 1)", 0).due("who(0, 1, 0, 0, 2, 1)", 256);
        S.terms("BEGAN (LAWNS where it were now, bits),").tell("r2,0;o1,0,1;").row(0, 0, 0, 1).due("who(0, 1, 0, 0, 0, 1)", 3).due("who(0, 1, 0, 0, 1, 1)", 0);
    }

    private static void weights() {
        String quote = "WEIGHTS (1 to 9, bits) of one SWAN (it, or another one) by which it is so.";
        S.terms(quote).tell("r3,0;c1,0,5;c1,0,6;").row(0, 0, 0, 1).due("who(0, 2, 0, 0, 0, 1)", 62).due("who(0, 2, 0, 0, 1, 1)", 960);
        S.terms(quote).tell("r3,0;c1,0,5;c1,0,9;").row(0, 0, 0, 1).due("who(0, 2, 0, 0, 1, 1)", 512).due("who(0, 2, 1, 0, 0, 1)", 512);
        S.terms(quote).tell("r3,0;c1,0,5;c1,0,1;").row(0, 0, 0, 1).due("who(1, 2, 1, 0, 0, 1)", 62).due("who(1, 2, 0, 0, 1, 1)", 62)
            .due("who(1, 2, 0, 0, 0, 1)", 960);
        S.terms(quote).tell("r3,0;p1,0,5;").row(0, 0, 0, 1).due("who(0, 2, 0, 0, 1, 1)", 1022).due("who(0, 2, 0, 0, 0, 1)", 0);
    }

    private static void who() {
        S.promise(29, "KINDS (which = 0), BEGAN (1), WEIGHTS (2) of a SWAN, by where another one (or itself) is,")
            .tell("r3,0;c1,0,5;c1,1,6;").row(0, 0, 0, 1)
            .due("who(1, 0, 0, 0, 0, 1)", 4).due("who(1, 0, 0, 0, 1, 1)", 58).due("who(1, 1, 0, 0, 0, 1)", 2).due("who(1, 1, 0, 0, 1, 1)", 5)
            .due("who(1, 2, 0, 0, 0, 1)", 960).due("who(1, 2, 0, 0, 1, 1)", 62).due("who(0, 1, 0, 0, 0, 1)", 3).due("who(0, 2, 0, 0, 0, 1)", 62);
        S.promise(29, "n ITEMS of a ROW from i on.").tell("r3,0;o2,0,1;").row(7, 2, 2, 2, 1, 0, 0, 0)
            .due("who(0, 0, 0, 7, 2, 2)", 16).due("who(0, 0, 0, 7, 0, 2)", 46).due("who(0, 0, 0, 7, 0, 3)", 0).due("who(0, 1, 0, 7, 3, 3)", 3)
            .due("who(0, 1, 0, 7, 5, 1)", 3);
        S.promise(29, "BAD: SWAN, which, OTHER, ROW, n;").rich()
            .refused("who(-1, 0, 0, 0, 0, 1)", BAD).refused("who(6, 0, 0, 0, 0, 1)", BAD).refused("who(0, -1, 0, 0, 0, 1)", BAD)
            .refused("who(0, 3, 0, 0, 0, 1)", BAD).refused("who(0, 0, -1, 0, 0, 1)", BAD).refused("who(0, 0, 6, 0, 0, 1)", BAD)
            .refused("who(0, 0, 0, -1, 0, 1)", BAD).refused("who(0, 0, 0, 8, 0, 1)", BAD).refused("who(0, 0, 0, 0, 0, 0)", BAD)
            .refused("who(0, 0, 0, 0, 0, 13)", BAD).refused("who(max, 0, 0, 0, 0, 1)", BAD).refused("who(min, 0, 0, 0, 0, 1)", BAD)
            .refused("who(0, max, 0, 0, 0, 1)", BAD).refused("who(0, min, 0, 0, 0, 1)", BAD).refused("who(0, 0, max, 0, 0, 1)", BAD)
            .refused("who(0, 0, min, 0, 0, 1)", BAD).refused("who(0, 0, 0, max, 0, 1)", BAD).refused("who(0, 0, 0, min, 0, 1)", BAD)
            .refused("who(0, 0, 0, 0, 0, max)", BAD).refused("who(0, 0, 0, 0, 0, min)", BAD).refused("who(0, 0, 0, 3, 0, 13)", BAD)
            .taken("who(5, 2, 5, 0, 0, 1)").taken("who(5, 2, 5, 7, 0, 1)").taken("who(0, 1, 5, 2, 0, 5)");
        S.promise(29, "BAD: SWAN, which, OTHER, ROW, n;").riverless().refused("who(0, 0, 0, 0, 0, 1)", BAD).refused("who(0, 0, 0, 3, 0, 1)", BAD);
        S.promise(29, "NULL;").rich().refused("who(0, 0, 0, 3, 0, 1)", NULL).refused("who(0, 0, 0, 6, -1, 1)", NULL);
        S.promise(29, "PLACE.").rich().refused("who(0, 0, 0, 0, -1, 1)", PLACE).refused("who(0, 0, 0, 0, 0, 5)", PLACE)
            .refused("who(0, 0, 0, 0, 4, 1)", PLACE).refused("who(0, 0, 0, 0, 3, 2)", PLACE).refused("who(0, 0, 0, 0, max, 1)", PLACE)
            .refused("who(0, 0, 0, 0, max, 12)", PLACE).refused("who(0, 0, 0, 0, min, 1)", PLACE).refused("who(0, 0, 0, 5, 0, 1)", PLACE)
            .taken("who(0, 0, 0, 0, 0, 4)").taken("who(0, 0, 0, 0, 3, 1)");
    }

    private static void which() {
        String quote = "WHICH: such a row: SWANS (bits) of which it is so.";
        S.terms(quote).tell("r5,0;o4,0,1;b0,0,1;p2,0,1;y2,0,1;o4,0,1;p4,0,1;").row(0, 0, 3, 2, 1, 4, 2, 2, 2)
            .due("which(0, 0, 3)", 17).due("which(0, 0, 1)", 17).due("which(0, 2, 1)", 2).due("which(0, 3, 1)", 32).due("which(0, 4, 3)", 12)
            .due("which(0, 2, 2)", 0);
        S.promise(30, "WHICH, n ITEMS of a ROW from i on.").tell("r5,0;o4,0,1;b0,0,1;").row(7, 2, 0, 3, 2, 1)
            .due("which(7, 1, 3)", 1).due("which(7, 0, 1)", 0).due("which(7, 3, 1)", 2).due("which(7, 1, 1)", 1);
        S.promise(30, "BAD: ROW, n;").rich()
            .refused("which(-1, 0, 1)", BAD).refused("which(8, 0, 1)", BAD).refused("which(min, 0, 1)", BAD).refused("which(max, 0, 1)", BAD)
            .refused("which(0, 0, 0)", BAD).refused("which(0, 0, 13)", BAD).refused("which(0, 0, min)", BAD).refused("which(0, 0, max)", BAD)
            .refused("which(3, 0, 13)", BAD).taken("which(0, 0, 1)").taken("which(7, 0, 1)").taken("which(2, 0, 5)");
        S.promise(30, "STATE: no RIVER (ahead of BAD);").riverless().refused("which(0, 0, 1)", STATE).refused("which(8, 0, 1)", STATE)
            .refused("which(0, 0, 13)", STATE).refused("which(3, 0, 1)", STATE).refused("which(0, -1, 1)", STATE);
        S.promise(30, "NULL;").rich().refused("which(3, 0, 1)", NULL).refused("which(6, 40, 12)", NULL);
        S.promise(30, "PLACE.").rich().refused("which(0, -1, 1)", PLACE).refused("which(0, 0, 5)", PLACE).refused("which(0, 4, 1)", PLACE)
            .refused("which(0, 3, 2)", PLACE).refused("which(0, max, 1)", PLACE).refused("which(0, max, 12)", PLACE)
            .refused("which(0, min, 1)", PLACE).refused("which(5, 0, 1)", PLACE).taken("which(0, 0, 4)").taken("which(0, 3, 1)");
    }

    private static void hungry() {
        String quote = "HUNGRY: SWANS (bits) that eat nothing in the next n DAYS (1 to 60).";
        // a cob shuns lawn 1 until, on the 60th day, the other cob leaves it for lawn 3
        S.terms(quote).tell("r4,0;c1,0,1;c0,0,1;").crumbs(1, 68).crumbs(3, 10).due("hungry(1)", 2).due("hungry(59)", 2).due("hungry(60)", 0)
            .refused("hungry(0)", BAD).refused("hungry(61)", BAD);
        S.terms(quote).tell("r2,0;o1,0,1;o1,0,1;b0,0,1;p0,0,1;y0,0,1;c1,0,1;").due("hungry(1)", 63).due("hungry(60)", 63)
            .crumbs(1, 1).due("hungry(1)", 62).due("hungry(60)", 62).crumbs(1, 1).due("hungry(1)", 60);
        S.terms(quote).tell("r2,2;o1,0,1;").due("hungry(1)", 0).due("hungry(2)", 0).due("hungry(3)", 0).due("hungry(60)", 0);
        S.promise(31, "HUNGRY.").tell("r3,0;b0,0,1;").crumbs(2, 1).due("hungry(1)", 1).due("hungry(2)", 0).due("days(2)", 1).due("hungry(1)", 1)
            .due("hungry(60)", 1);
        S.promise(31, "BAD;").rich().bounded("hungry", Run.to(1, 60));
        S.promise(31, "STATE: no RIVER (ahead of BAD).").riverless().refused("hungry(1)", STATE).refused("hungry(60)", STATE)
            .refused("hungry(0)", STATE).refused("hungry(61)", STATE);
    }

    private static Run sinkIs(Run x, int swan, int lawn, int p, long above, long below) {
        String call = "sink(" + swan + ", " + lawn + ", " + p + ", ";
        return x.due(call + "0)", above).due(call + "1)", below);
    }

    private static void sink() {
        String cases = "SINK by p of 10 (0 to 10): of each LAWN that has CRUMBS all sink now in p of 10 cases, apart:";
        Run old = S.terms(cases).tell("r2,9;o1,0,1;");
        for (int p = 0; p <= 10; p++) {
            int shared = p == 0 || p == 10 ? 10 : p == 5 ? 5 : p % 2 == 0 ? 2 : 1;
            sinkIs(old, 0, 0, p, p / shared, 10 / shared);
            sinkIs(old, 0, 1, p, (10 - p) / shared, 10 / shared);
        }
        old.refused("sink(0, 0, -1, 0)", BAD).refused("sink(0, 0, 11, 0)", BAD);
        Run pen = S.terms(cases).tell("r3,0;p1,0,1;").crumbs(0, 1).crumbs(2, 99);
        sinkIs(pen, 0, 2, 4, 3, 5);
        sinkIs(pen, 0, 0, 4, 6, 25);
        sinkIs(pen, 0, 1, 4, 4, 25);
        sinkIs(pen, 0, 2, 0, 1, 1);
        sinkIs(pen, 0, 1, 10, 1, 1);
        sinkIs(pen, 0, 0, 10, 0, 1);
        sinkIs(S.terms(cases).tell("r3,0;p1,0,1;").crumbs(1, 9), 0, 1, 10, 1, 1);
        sinkIs(S.terms(cases).tell("r3,0;p1,0,1;").crumbs(1, 9), 0, 1, 5, 1, 1);
        String day = "how likely a SWAN is on a told LAWN behind the DAY: a fraction.";
        sinkIs(S.terms(day).tell("r2,0;o1,0,1;"), 0, 0, 5, 1, 1);
        sinkIs(S.terms(day).tell("r2,0;o1,0,1;"), 0, 1, 5, 0, 1);
        Run two = S.terms(day).tell("r2,0;o1,0,1;o1,0,1;").crumbs(1, 1);
        sinkIs(two, 0, 1, 3, 7, 10);
        sinkIs(two, 1, 1, 3, 0, 1);
        sinkIs(two, 1, 0, 3, 1, 1);
        Run nine = S.terms(day).tell("r9,9;p4,0,1;b8,0,1;");
        sinkIs(nine, 0, 4, 3, 70243, 100000);
        sinkIs(nine, 0, 3, 3, 2289, 10000);
        sinkIs(nine, 0, 5, 3, 6867, 100000);
        sinkIs(nine, 1, 8, 3, 1, 1);
        S.promise(32, "SINK: above (what = 0), below (1).").tell("r2,1;o1,0,1;").due("sink(0, 1, 3, 0)", 7).due("sink(0, 1, 3, 1)", 10);
        S.promise(32, "BAD.").rich().bounded("sink", Run.to(0, 5), Run.to(0, 4), Run.to(0, 10), Run.to(0, 1));
        S.promise(32, "BAD.").riverless().refused("sink(0, 0, 0, 0)", BAD);
    }

    private static void drawn() {
        String years = "YEARS of n DAYS (0 to 60) by a SEED (X at first):";
        S.terms(years).tell("r2,6;o1,0,1;").due("drawn(59, 999052, 1)", 0).due("drawn(60, 999052, 1)", 1)
            .refused("drawn(61, 999052, 1)", BAD).refused("drawn(-1, 999052, 1)", BAD).due("drawn(0, 999052, 1)", 0);
        S.terms(years).tell("r2,9;o1,0,1;").due("drawn(59, 999253, 1)", 0).due("drawn(60, 999253, 1)", 1);
        S.terms(years).tell("r2,0;o1,0,1;").due("drawn(59, 649, 1)", 0).due("drawn(60, 649, 1)", 1).due("drawn(0, 1, 1)", 0)
            .due("drawn(5, 1, 1)", 0).due("drawn(6, 1, 1)", 1).due("drawn(0, 999999, 1)", 0).due("drawn(1, 999999, 1)", 1);
        String next = "ahead of each X becomes the rest of (X times 16807) by 2147483647;";
        S.terms(next).tell("r2,4;o1,0,1;").due("drawn(59, 91, 1)", 0).due("drawn(60, 91, 1)", 1);
        S.terms(next).tell("r2,8;o1,0,1;").due("drawn(59, 999167, 1)", 0).due("drawn(60, 999167, 1)", 1)
            .due("drawn(15, 999999, 1)", 0).due("drawn(16, 999999, 1)", 1);
        S.terms(next).tell("r2,3;o1,0,1;").due("drawn(59, 3, 1)", 1).due("drawn(58, 3, 1)", 0).due("drawn(13, 1, 1)", 0).due("drawn(14, 1, 1)", 1);
        String thrown = "on the LAWN that is the rest of X by LAWNS the rest of X by 4 CRUMBS are thrown:";
        S.terms(thrown).tell("r9,0;o8,0,1;o5,0,1;b0,0,1;b3,0,1;").due("drawn(2, 1, 1)", 6).due("drawn(2, 999999, 1)", 8)
            .due("drawn(3, 1, 1)", 9).due("drawn(5, 1, 1)", 15).due("drawn(3, 999999, 1)", 12).due("drawn(5, 999999, 1)", 20);
        S.terms(thrown).tell("r7,1;o6,0,1;b0,0,1;o3,0,1;").due("drawn(2, 1, 1)", 2).due("drawn(3, 1, 1)", 3).due("drawn(5, 1, 1)", 7)
            .due("drawn(2, 999999, 1)", 3).due("drawn(5, 999999, 1)", 9);
        // 99 lie there at most, of which six eat: what is thrown on the first day is lost
        S.terms(thrown).tell("r2,0;o1,0,1;o1,0,1;o1,0,1;o1,0,1;o1,0,1;o1,0,1;").crumbs(1, 99).due("drawn(18, 5, 1)", 0)
            .due("drawn(19, 5, 1)", 1).due("drawn(20, 5, 1)", 6);
        String told = "how many FAMILIES OWN something then; how often a SWAN was, behind a DAY, on another LAWN than ahead of it.";
        S.terms(told).tell("r9,0;o8,0,1;o5,0,1;b0,0,1;b3,0,1;").due("drawn(0, 1, 0)", 4).due("drawn(1, 1, 0)", 3).due("drawn(1, 1, 1)", 4)
            .due("drawn(2, 1, 0)", 4).due("drawn(60, 1, 0)", 2).due("drawn(60, 1, 1)", 26).due("drawn(60, 999999, 1)", 26);
        S.promise(33, "YEARS by a SEED (1 to 999999): FAMILIES (what = 0), how often (1).").tell("r7,1;o6,0,1;b0,0,1;o3,0,1;")
            .due("drawn(5, 1, 0)", 2).due("drawn(5, 1, 1)", 7).due("drawn(5, 999999, 0)", 2).due("drawn(3, 999999, 1)", 6)
            .refused("drawn(5, 0, 0)", BAD).refused("drawn(5, 1000000, 0)", BAD);
        S.promise(33, "YEARS by a SEED (1 to 999999): FAMILIES (what = 0), how often (1).").tell("r2,0;o1,0,1;").crumbs(1, 6)
            .due("drawn(59, 999052, 1)", 0).due("drawn(60, 999052, 1)", 1).due("bread(1, 1)", 7).due("drawn(60, 999052, 1)", 0)
            .due("undo()", 1).due("drawn(60, 999052, 1)", 1);
        S.promise(33, "BAD;").rich().bounded("drawn", Run.to(0, 60), Run.to(1, 999999), Run.to(0, 1));
        S.promise(33, "STATE: no RIVER (ahead of BAD).").riverless().refused("drawn(0, 1, 0)", STATE).refused("drawn(61, 1, 0)", STATE)
            .refused("drawn(0, 0, 0)", STATE).refused("drawn(0, 1, 2)", STATE).refused("drawn(-1, 1000000, -1)", STATE);
    }
}
