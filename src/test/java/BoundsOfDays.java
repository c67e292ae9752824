/** What the document says of days and of acts, a sentence at a time: how far, how many, and where it ends. */
final class BoundsOfDays {
    private static final Sentences S = Sentences.ALL;
    private static final int BAD = SwanDeeds.BAD, STATE = SwanDeeds.STATE, FULL = SwanDeeds.FULL;

    static void all() {
        families();
        weirsBarTheWay();
        weirsBarTheSight();
        eachSwimsThenEats();
        howFarTheySee();
        mostCrumbs();
        staying();
        cobsShun();
        oldOnes();
        blackOnes();
        fights();
        dayIsOneMore();
        actsKept();
        actsChangeNothingElse();
        actsChangeTheRiverAlone();
        eachActIsUndone();
        actsByWhichNothingBecomesAnother();
        undo();
        days();
        lastDay();
        bread();
        weir();
        frighten();
        weight();
        swan();
        lawn();
    }

    private static void families() {
        S.terms("By each LAWN lives a FAMILY of its number.").tell("r9,0;p0,4,1;p8,5,1;")
            .due("owns(0, 0)", 16).due("owns(8, 0)", 32).due("owns(7, 0)", 0).refused("owns(9, 0)", BAD).refused("owns(-1, 0)", BAD);
        S.terms("It OWNS the PLOTS of all SWANS that are on its LAWN.").tell("r9,0;p1,0,1;p1,8,1;p1,8,1;y2,1,1;p1,4,1;")
            .due("lawn(1, 3)", 273).due("lawn(2, 3)", 2).due("lawn(0, 3)", 0).due("lawn(3, 3)", 0).due("nobody(0)", 505);
    }

    private static void weirsBarTheWay() {
        String quote = "A WEIR between a LAWN and the next one bars the way";
        S.terms(quote).tell("r4,0;o2,0,1;b1,0,1;p1,0,1;p2,0,1;").goals(1, 2, 1, 2)
            .due("weir(1, 1)", 2).goals(2, 1, 1, 2).refused("frighten(2, 1)", STATE).refused("frighten(3, 0)", STATE)
            .due("frighten(2, 0)", 0).due("frighten(3, 1)", 3).due("days(3)", 4).places(2, 1, 0, 3);
        S.terms(quote).tell("r4,0;o2,0,1;b1,0,1;").due("weir(0, 1)", 1).due("weir(2, 1)", 5).goals(1, 2)
            .due("days(1)", 2).places(1, 2).due("days(1)", 2).places(1, 2);
        S.terms(quote).tell("r3,0;p1,0,1;y1,0,1;c1,0,1;").crumbs(0, 1).goals(0, 0, 0).due("weir(0, 1)", 1).goals(1, 1, 1)
            .crumbs(2, 1).goals(2, 2, 2).due("weir(1, 1)", 3).goals(1, 1, 1).due("weir(0, 0)", 2).goals(0, 0, 0);
    }

    private static void weirsBarTheSight() {
        String quote = "and the sight beyond.";
        S.terms(quote).tell("r5,0;p2,0,1;c2,0,1;").crumbs(4, 2).goals(3, 3)
            .due("weir(3, 1)", 8).goals(2, 2).due("weir(3, 0)", 0).goals(3, 3)
            .due("weir(2, 1)", 4).goals(2, 2).due("weir(2, 0)", 0).goals(3, 3)
            .due("weir(1, 1)", 2).due("weir(0, 1)", 3).goals(3, 3);
        S.terms(quote).tell("r5,0;p2,0,1;c2,0,1;").crumbs(0, 2).goals(1, 1)
            .due("weir(0, 1)", 1).goals(2, 2).due("weir(0, 0)", 0).goals(1, 1)
            .due("weir(1, 1)", 2).goals(2, 2).due("weir(1, 0)", 0).goals(1, 1)
            .due("weir(2, 1)", 4).due("weir(3, 1)", 12).goals(1, 1);
        S.terms(quote).tell("r5,0;p2,0,1;").crumbs(3, 1).crumbs(4, 9).crumbs(1, 3).goals(3)
            .due("weir(3, 1)", 8).goals(1).due("weir(2, 1)", 12).goals(1);
    }

    private static void eachSwimsThenEats() {
        String quote = "A DAY: each SWAN, by numbers, swims, then eats one CRUMB of the LAWN where it is, if there is one.";
        S.terms(quote).tell("r2,0;o1,0,1;o1,1,1;").crumbs(1, 1).due("days(1)", 2).places(1, 0).breadLies(0, 0);
        S.terms(quote).tell("r2,0;o1,0,1;o1,1,1;").crumbs(1, 2).due("days(1)", 1).places(1, 1).breadLies(0, 0);
        S.terms(quote).tell("r2,0;b0,0,1;").crumbs(1, 3).due("days(1)", 1).places(1).breadLies(0, 2).due("days(1)", 1).breadLies(0, 1);
        S.terms(quote).tell("r4,0;p1,0,1;y3,0,1;").crumbs(2, 1).goals(2, 2).due("days(1)", 2).places(2, 3).breadLies(0, 0, 0, 0);
        S.terms(quote).tell("r4,0;y3,0,1;p1,0,1;").crumbs(2, 1).goals(2, 2).due("days(1)", 2).places(2, 1);
        S.terms(quote).tell("r4,0;y3,0,1;p1,0,1;").crumbs(2, 2).due("days(1)", 1).places(2, 2).breadLies(0, 0, 0, 0);
        S.terms(quote).tell("r5,0;c2,0,1;c1,0,1;").crumbs(3, 5).crumbs(2, 3).goals(3, 2).due("days(1)", 2)
            .places(3, 2).breadLies(0, 0, 2, 4, 0);
        S.terms(quote).tell("r5,0;c1,0,1;c2,0,1;").crumbs(3, 5).crumbs(2, 3).goals(2, 3).due("days(1)", 2)
            .places(2, 3).breadLies(0, 0, 2, 4, 0);
    }

    private static void howFarTheySee() {
        int[][] due = {{4, 4, 4}, {4, 4, 4}, {3, 4, 3}, {3, 3, 3}, {4, 4, 4}, {5, 5, 5}, {5, 4, 5}, {4, 4, 4}, {4, 4, 4}};
        for (int lawn = 0; lawn < 9; lawn++) {
            S.terms("A pen sees LAWNS as far as 2 off, a cygnet 1, up and down, and its own;")
                .tell("r9,0;p4,0,1;y4,0,1;c4,0,1;").crumbs(lawn, 1).goals(due[lawn]);
        }
        S.terms("A pen sees LAWNS as far as 2 off, a cygnet 1, up and down, and its own;")
            .tell("r2,0;p0,0,1;y0,0,1;c0,0,1;p1,0,1;y1,0,1;").goals(0, 0, 0, 1, 1).crumbs(1, 1).goals(1, 1, 1, 1, 1)
            .crumbs(0, 2).goals(0, 0, 0, 0, 0);
    }

    private static void mostCrumbs() {
        String most = "it swims to the next LAWN on the way to that which has most CRUMBS of these";
        S.terms(most).tell("r9,0;p4,0,1;").crumbs(5, 1).crumbs(2, 2).goals(3).crumbs(6, 3).goals(5).crumbs(3, 4).goals(3)
            .crumbs(5, 4).goals(5).crumbs(2, 4).goals(3).crumbs(4, 7).goals(4);
        S.terms(most).tell("r9,0;y4,0,1;").crumbs(5, 1).crumbs(2, 2).goals(5).crumbs(3, 2).goals(3).crumbs(4, 3).goals(4);
        S.terms(most).tell("r9,0;p4,0,1;").crumbs(6, 5).due("days(1)", 1).places(5).breadLies(0, 0, 0, 0, 0, 0, 5)
            .due("days(1)", 1).places(6).breadLies(0, 0, 0, 0, 0, 0, 4);
        String nearest = "(of several the nearest, of these the lesser number);";
        S.terms(nearest).tell("r9,0;p4,0,1;c4,0,1;").crumbs(2, 2).crumbs(5, 2).goals(5, 5).crumbs(4, 2).goals(4, 4);
        S.terms(nearest).tell("r9,0;p4,0,1;c4,0,1;").crumbs(6, 2).crumbs(3, 2).goals(3, 3).crumbs(4, 2).goals(4, 4);
        S.terms(nearest).tell("r9,0;p4,0,1;y4,0,1;c4,0,1;").crumbs(5, 2).crumbs(3, 2).goals(3, 3, 3).crumbs(5, 1).goals(5, 5, 5);
        S.terms(nearest).tell("r9,0;p4,0,1;c4,0,1;").crumbs(6, 2).crumbs(2, 2).goals(3, 3).crumbs(6, 1).goals(5, 5);
        S.terms(nearest).tell("r9,0;y4,0,1;").crumbs(5, 2).crumbs(4, 2).goals(4).crumbs(5, 1).goals(5);
    }

    private static void staying() {
        String quote = "it stays, if that is its own, or none has any.";
        S.terms(quote).tell("r9,0;p4,0,1;y4,0,1;c4,0,1;").goals(4, 4, 4).due("days(1)", 1).places(4, 4, 4)
            .crumbs(1, 9).crumbs(7, 9).goals(4, 4, 4).crumbs(4, 1).goals(4, 4, 4);
        S.terms(quote).tell("r9,2;p4,0,1;").goals(4).due("days(1)", 1).places(4).breadLies(2, 2, 2, 2, 1).due("days(1)", 1).places(3);
    }

    private static void cobsShun() {
        String quote = "A cob as a pen, but a LAWN on which there is another cob has none to it.";
        S.terms(quote).tell("r5,0;c2,0,1;c3,0,2;p2,0,1;").crumbs(3, 9).goals(2, 3, 3).crumbs(1, 1).goals(1, 3, 3);
        S.terms(quote).tell("r5,0;c2,0,1;c2,0,2;p2,0,1;").crumbs(2, 9).goals(2, 2, 2).crumbs(4, 1).goals(3, 3, 2);
        S.terms(quote).tell("r5,0;c2,0,1;p3,0,1;y3,0,1;o3,0,1;b3,0,1;").crumbs(3, 2).crumbs(1, 1).goals(3);
        S.terms(quote).tell("r5,0;c2,0,1;c0,0,1;c4,0,1;").crumbs(0, 9).crumbs(4, 9).goals(2, 0, 4).crumbs(3, 1).goals(3, 0, 4);
        S.terms(quote).tell("r5,0;c2,0,1;c3,0,1;c3,0,2;").crumbs(3, 9).goals(2, 3, 3).crumbs(1, 1).goals(1, 2, 2);
        S.terms(quote).tell("r5,0;c2,0,1;c3,0,2;").crumbs(4, 1).goals(3, 4);
        S.terms(quote).tell("r9,0;c0,0,1;c8,0,1;c4,0,1;").crumbs(4, 9).crumbs(1, 1).crumbs(6, 1).goals(1, 7, 4);
    }

    private static void oldOnes() {
        String quote = "An old one stays, if there is a CRUMB on its LAWN, else it swims one LAWN down (to a lesser number; it stays, if it can not).";
        S.terms(quote).tell("r3,0;o2,0,1;o1,0,1;o0,0,1;").goals(1, 0, 0).crumbs(2, 1).crumbs(1, 1).goals(2, 1, 0)
            .due("days(1)", 3).places(2, 1, 0).breadLies(0, 0, 0).due("days(1)", 2).places(1, 0, 0)
            .due("days(1)", 1).places(0, 0, 0).due("days(1)", 1).places(0, 0, 0);
        S.terms(quote).tell("r3,0;o2,0,1;").crumbs(1, 9).goals(1).due("weir(1, 1)", 2).goals(2).due("weir(1, 0)", 0)
            .due("weir(0, 1)", 1).goals(1);
    }

    private static void blackOnes() {
        String quote = "A black one so, but up.";
        S.terms(quote).tell("r3,0;b0,0,1;b1,0,1;b2,0,1;").goals(1, 2, 2).crumbs(0, 1).crumbs(1, 1).goals(0, 1, 2)
            .due("days(1)", 3).places(0, 1, 2).breadLies(0, 0, 0).due("days(1)", 2).places(1, 2, 2)
            .due("days(1)", 1).places(2, 2, 2).due("days(1)", 1).places(2, 2, 2);
        S.terms(quote).tell("r3,0;b0,0,1;").crumbs(1, 9).goals(1).due("weir(0, 1)", 1).goals(0).due("weir(0, 0)", 0)
            .due("weir(1, 1)", 2).goals(1);
    }

    private static void fights() {
        String quote = "Then cobs fight: on each LAWN, by numbers, all cobs that are there then but the heaviest one";
        S.terms(quote).tell("r3,0;c2,0,4;c2,0,5;c2,0,3;").due("days(1)", 2).places(1, 2, 1).due("days(1)", 3).places(1, 2, 0);
        S.terms(quote).tell("r3,0;c2,0,9;c2,0,1;c1,0,5;").due("days(1)", 2).places(2, 1, 1).due("days(1)", 3).places(2, 0, 1);
        S.terms(quote).tell("r3,0;c2,0,1;p2,0,9;y2,0,9;b2,0,9;").due("days(1)", 1).places(2, 2, 2, 2);
        S.terms(quote).tell("r3,0;c2,0,9;c1,0,5;").crumbs(2, 1).due("days(1)", 2).places(2, 1);
        S.terms(quote).tell("r3,0;c0,0,1;c2,0,2;").crumbs(1, 2).due("days(1)", 2).places(1, 2).breadLies(0, 1, 0);
        S.terms("(of several the first)").tell("r3,0;c2,0,3;c2,0,3;c2,0,3;").due("days(1)", 2).places(2, 1, 1)
            .due("days(1)", 3).places(2, 1, 0);
        S.terms("(of several the first)").tell("r3,0;c2,0,1;c2,0,9;c2,0,9;").due("days(1)", 2).places(1, 2, 1);
        String down = "swim one LAWN down (stay, if they can not).";
        S.terms(down).tell("r3,0;c0,0,3;c0,0,4;").due("days(1)", 1).places(0, 0).due("fights(1)", 1);
        S.terms(down).tell("r3,0;c2,0,3;c2,0,4;").due("weir(1, 1)", 2).due("days(1)", 1).places(2, 2)
            .due("weir(1, 0)", 0).due("weir(0, 1)", 1).due("days(1)", 2).places(1, 2).due("days(1)", 2).places(1, 2);
        S.terms(down).tell("r9,0;c8,0,3;c8,0,4;").due("days(1)", 2).places(7, 8).due("days(3)", 2).places(7, 8);
    }

    private static void dayIsOneMore() {
        S.terms("DAY is 1 more.").tell("r2,0;p0,0,1;").due("count(3)", 0).due("days(1)", 1).due("count(3)", 1).due("days(24)", 1)
            .due("count(3)", 25).crumbs(0, 1).due("count(3)", 25).due("undo()", 23).due("count(3)", 25).due("undo()", 22).due("count(3)", 24);
    }

    private static void undoneAll(Run x, int acts) {
        for (int left = acts - 1; left >= 0; left--) {
            x.due("undo()", left);
        }
        x.refused("undo()", STATE);
    }

    private static void actsKept() {
        String quote = "ACTS (24 at most are kept, of more the oldest is forgotten;";
        Run x = S.terms(quote).tell("r2,0;p0,0,1;").crumbs(1, 207).due("count(6)", 23).due("bread(1, 1)", 99).due("count(6)", 24);
        undoneAll(x, 24);
        x.breadLies(0, 0);
        Run y = S.terms(quote).tell("r2,0;p0,0,1;").due("bread(1, 1)", 1).crumbs(0, 207).due("count(6)", 24)
            .due("bread(0, 2)", 99).due("count(6)", 24);
        undoneAll(y, 24);
        y.breadLies(0, 1);
        Run z = S.terms(quote).tell("r2,0;p0,0,1;").due("bread(1, 1)", 1).due("bread(1, 2)", 3).due("days(24)", 1).due("count(6)", 24);
        undoneAll(z, 24);
        z.breadLies(0, 3).due("count(3)", 0);
        // the room of what was forgotten, or undone, is used again
        Run w = S.terms(quote).tell("r2,0;p0,0,1;").due("days(20)", 1).due("days(10)", 1);
        for (int left = 23; left >= 10; left--) {
            w.due("undo()", left);
        }
        w.due("count(3)", 16).due("days(15)", 1).due("count(6)", 24).due("count(3)", 31);
        undoneAll(w, 24);
        w.due("count(3)", 7);
    }

    /** All of a river of two swans on two lawns. */
    private static void riverIs(Run x, int day, int weirs, int[] crumbs, int[] places, int[] weights) {
        x.due("count(3)", day).due("count(5)", weirs).breadLies(crumbs).places(places)
            .due("swan(0, 2)", weights[0]).due("swan(1, 2)", weights[1]).due("swan(0, 1)", 1).due("swan(1, 1)", 0)
            .due("kind(0)", 4).due("kind(1)", 3);
    }

    private static void actsChangeNothingElse() {
        String quote = "a SWAN is frightened onto a LAWN beside its own that no WEIR bars; WEIGHT of one is another.";
        Run x = S.terms(quote).tell("r2,3;o0,1,4;y1,0,5;").due("days(1)", 2);
        riverIs(x, 1, 0, new int[] {2, 2}, new int[] {0, 1}, new int[] {4, 5});
        x.due("frighten(0, 1)", 1);
        riverIs(x, 1, 0, new int[] {2, 2}, new int[] {1, 1}, new int[] {4, 5});
        x.due("frighten(1, 0)", 0);
        riverIs(x, 1, 0, new int[] {2, 2}, new int[] {1, 0}, new int[] {4, 5});
        x.due("weight(1, 8)", 5);
        riverIs(x, 1, 0, new int[] {2, 2}, new int[] {1, 0}, new int[] {4, 8});
        x.due("weir(0, 1)", 1);
        riverIs(x, 1, 1, new int[] {2, 2}, new int[] {1, 0}, new int[] {4, 8});
        x.due("bread(0, 7)", 9);
        riverIs(x, 1, 1, new int[] {9, 2}, new int[] {1, 0}, new int[] {4, 8});
        x.due("weir(0, 0)", 0);
        riverIs(x, 1, 0, new int[] {9, 2}, new int[] {1, 0}, new int[] {4, 8});
        x.due("undo()", 6);
        riverIs(x, 1, 1, new int[] {9, 2}, new int[] {1, 0}, new int[] {4, 8});
    }

    private static void actsChangeTheRiverAlone() {
        String[] acts = {"days(1)", "bread(0, 1)", "weir(0, 1)", "weir(3, 0)", "frighten(0, 0)", "weight(0, 9)", "weight(0, 4)", "undo()"};
        for (String act : acts) {
            S.terms("a DAY; n CRUMBS are thrown on a LAWN (99 at most); a WEIR is built, or torn down;").rich().taken(act).taken("undo()");
        }
    }

    private static void eachActIsUndone() {
        String quote = "each can be undone, the latest first;";
        Run x = S.terms(quote).tell("r3,0;o2,0,4;")
            .due("bread(2, 1)", 1).due("days(3)", 1).due("weir(1, 1)", 2).due("frighten(0, 1)", 1).due("frighten(0, 0)", 0)
            .due("weir(1, 0)", 0).due("weight(0, 9)", 4).due("count(6)", 9);
        x.due("undo()", 8).due("swan(0, 2)", 4).due("undo()", 7).due("count(5)", 2).due("undo()", 6).places(1)
            .due("undo()", 5).places(0).due("undo()", 4).due("count(5)", 0).due("undo()", 3).places(1).due("count(3)", 2)
            .due("undo()", 2).places(2).breadLies(0, 0, 0).due("undo()", 1).breadLies(0, 0, 1).due("count(3)", 0)
            .due("undo()", 0).breadLies(0, 0, 0).refused("undo()", STATE);
        S.terms("a DAY; n CRUMBS are thrown on a LAWN (99 at most); a WEIR is built, or torn down;").tell("r2,0;p0,0,1;")
            .due("days(1)", 1).due("count(6)", 1).due("bread(1, 9)", 9).due("count(6)", 2).due("weir(0, 1)", 1).due("count(6)", 3)
            .due("weir(0, 0)", 0).due("count(6)", 4);
        S.terms("a SWAN is frightened onto a LAWN beside its own that no WEIR bars; WEIGHT of one is another.").tell("r2,0;p0,0,1;")
            .due("frighten(0, 1)", 1).due("count(6)", 1).due("frighten(0, 0)", 0).due("count(6)", 2).due("weight(0, 2)", 1).due("count(6)", 3);
        S.terms("n CRUMBS are thrown on a LAWN (99 at most);").tell("r2,0;p0,0,1;").crumbs(1, 97)
            .due("bread(1, 1)", 98).due("bread(1, 1)", 99).due("bread(1, 1)", 99).due("bread(1, 9)", 99).due("undo()", 14)
            .due("undo()", 13).breadLies(0, 99).due("undo()", 12).breadLies(0, 98).due("bread(1, 9)", 99).due("undo()", 12).breadLies(0, 98);
    }

    private static void actsByWhichNothingBecomesAnother() {
        String quote = "also such by which nothing becomes another):";
        S.terms(quote).tell("r2,0;p0,0,5;").due("weight(0, 5)", 5).due("count(6)", 1).due("weight(0, 5)", 5).due("count(6)", 2).due("undo()", 1);
        S.terms(quote).tell("r2,0;p0,0,5;").crumbs(1, 99).due("count(6)", 11).due("bread(1, 1)", 99).due("count(6)", 12)
            .due("undo()", 11).breadLies(0, 99);
        S.terms(quote).tell("r2,0;p0,0,5;").due("days(3)", 1).due("count(6)", 3);
    }

    private static void undo() {
        S.promise(9, "The latest ACT is undone: how many can be undone yet.").settled().due("count(6)", 5)
            .due("undo()", 4).due("swan(1, 2)", 5).due("undo()", 3).due("count(3)", 1).due("undo()", 2).due("count(3)", 0)
            .due("undo()", 1).due("lawn(1, 0)", 1).due("undo()", 0).due("count(5)", 0);
        S.promise(9, "STATE: none.").refused("undo()", STATE);
        S.promise(9, "STATE: none.").riverless().refused("undo()", STATE);
        S.promise(9, "STATE: none.").rich().after("undo()", "undo()", "undo()", "undo()", "undo()").refused("undo()", STATE);
        S.promise(9, "STATE: none.").rich().after("restore(0)").refused("undo()", STATE);
    }

    private static void days() {
        S.promise(10, "n DAYS (1 to 24), an ACT each: how many FAMILIES OWN something then.").tell("r3,0;o2,0,1;b0,1,1;")
            .due("days(1)", 1).due("count(6)", 1).places(1, 1).due("days(2)", 2).due("count(6)", 3).places(0, 2)
            .due("days(21)", 2).due("count(6)", 24).due("count(3)", 24).due("undo()", 23).due("count(3)", 23);
        S.promise(10, "how many FAMILIES OWN something then.").tell("r9,0;p0,0,1;p1,0,1;p2,0,1;p3,0,1;p4,0,1;p8,0,1;").due("days(4)", 6);
        S.promise(10, "how many FAMILIES OWN something then.").tell("r2,0;p1,0,1;p1,0,1;").due("days(24)", 1);
        S.promise(10, "BAD;").rich().bounded("days", Run.to(1, 24));
        S.promise(10, "STATE: no RIVER (ahead of BAD);").riverless().refused("days(1)", STATE).refused("days(24)", STATE)
            .refused("days(0)", STATE).refused("days(25)", STATE).refused("days(-1)", STATE);
    }

    private static void lastDay() {
        String quote = "FULL: DAY would be above 999.";
        Run x = S.promise(10, quote).tell("r2,0;o0,0,1;");
        for (int i = 0; i < 40; i++) {
            x.after("days(24)");
        }
        x.after("days(15)").due("count(3)", 975).due("days(24)", 1).due("count(3)", 999).refused("days(1)", FULL).refused("days(24)", FULL)
            .refused("days(25)", BAD).refused("days(0)", BAD).due("ahead(0, 60)", 0).due("drawn(60, 1, 1)", 0)
            .due("undo()", 23).due("count(3)", 998).refused("days(2)", FULL).due("days(1)", 1).due("count(3)", 999);
        Run y = S.promise(10, quote).tell("r2,0;p0,0,1;");
        for (int i = 0; i < 40; i++) {
            y.after("days(24)");
        }
        y.after("days(16)").due("count(3)", 976).refused("days(24)", FULL).due("count(3)", 976).due("days(23)", 1).refused("days(1)", FULL);
        S.promise(10, quote).full().refused("days(1)", FULL).refused("days(24)", FULL);
    }

    private static void bread() {
        S.promise(11, "n CRUMBS (1 to 9) are thrown: how many lie there then.").tell("r2,0;p0,0,1;")
            .due("bread(1, 1)", 1).due("bread(1, 9)", 10).due("bread(0, 5)", 5).breadLies(5, 10).due("count(4)", 15);
        S.promise(11, "BAD.").rich().bounded("bread", Run.to(0, 4), Run.to(1, 9));
        S.promise(11, "BAD.").riverless().refused("bread(0, 1)", BAD);
        S.promise(11, "how many lie there then.").full().due("bread(1, 1)", 99).due("bread(1, 9)", 99).due("bread(0, 9)", 9);
    }

    private static void weir() {
        S.terms("(a WEIR by the lesser of its LAWNS).").tell("r4,0;p0,0,1;").due("weir(1, 1)", 2).refused("frighten(0, 0)", STATE)
            .due("frighten(0, 1)", 1).refused("frighten(0, 1)", STATE).due("lawn(1, 1)", 1).due("lawn(2, 1)", 0).due("lawn(0, 1)", 0);
        S.promise(12, "A WEIR is built (1), or torn down (0): which there are (bits).").tell("r9,0;p0,0,1;")
            .due("weir(0, 1)", 1).due("weir(7, 1)", 129).due("weir(3, 1)", 137).due("weir(0, 0)", 136).due("weir(3, 0)", 128)
            .due("weir(7, 0)", 0).due("count(5)", 0);
        S.promise(12, "BAD:").rich().bounded("weir", Run.to(0, 3), Run.to(0, 1));
        S.promise(12, "BAD:").riverless().refused("weir(0, 1)", BAD);
        S.promise(12, "there is no next LAWN, too;").rich().refused("weir(4, 1)", BAD).refused("weir(4, 0)", BAD).due("weir(2, 1)", 12);
        S.promise(12, "there is no next LAWN, too;").tell("r9,0;p0,0,1;").due("weir(7, 1)", 128).refused("weir(8, 1)", BAD).refused("weir(9, 1)", BAD);
        S.promise(12, "there is no next LAWN, too;").tell("r2,0;p0,0,1;").due("weir(0, 1)", 1).refused("weir(1, 1)", BAD).refused("weir(2, 1)", BAD);
        S.promise(12, "STATE: it is so.").rich().refused("weir(3, 1)", STATE).refused("weir(0, 0)", STATE).due("weir(3, 0)", 0)
            .refused("weir(3, 0)", STATE).due("weir(0, 1)", 1).refused("weir(0, 1)", STATE);
    }

    private static void frighten() {
        S.promise(13, "Frightened up (1: to a greater number), or down (0): on which LAWN it is.").tell("r9,9;o0,0,1;y8,0,1;")
            .due("frighten(0, 1)", 1).due("frighten(0, 1)", 2).places(2, 8).due("frighten(1, 0)", 7).places(2, 7)
            .due("frighten(0, 0)", 1).due("frighten(0, 0)", 0).due("frighten(1, 1)", 8).places(0, 8).due("count(4)", 81);
        S.promise(13, "BAD;").rich().bounded("frighten", Run.to(0, 5), Run.to(0, 1));
        S.promise(13, "BAD;").riverless().refused("frighten(0, 0)", BAD);
        S.promise(13, "STATE: it can not go there.").tell("r3,0;o0,0,1;o2,0,1;p1,0,1;")
            .refused("frighten(0, 0)", STATE).refused("frighten(1, 1)", STATE).due("weir(0, 1)", 1)
            .refused("frighten(0, 1)", STATE).refused("frighten(2, 0)", STATE).due("frighten(2, 1)", 2).due("frighten(2, 0)", 1)
            .due("weir(0, 0)", 0).due("weir(1, 1)", 2).refused("frighten(2, 1)", STATE).refused("frighten(1, 0)", STATE)
            .due("frighten(2, 0)", 0).due("frighten(0, 1)", 1);
    }

    private static void weight() {
        S.promise(14, "WEIGHT (1 to 9): what it was.").tell("r2,0;p0,0,1;c1,0,9;")
            .due("weight(0, 9)", 1).due("weight(0, 1)", 9).due("weight(1, 2)", 9).due("weight(1, 2)", 2).due("swan(0, 2)", 1).due("swan(1, 2)", 2);
        S.promise(14, "BAD.").rich().bounded("weight", Run.to(0, 5), Run.to(1, 9));
        S.promise(14, "BAD.").riverless().refused("weight(0, 1)", BAD);
    }

    private static void swan() {
        S.promise(15, "Of a SWAN: 0 LAWN, 1 PLOT, 2 WEIGHT, 3 to which LAWN it would swim now,").tell("r9,0;o8,3,6;")
            .due("swan(0, 0)", 8).due("swan(0, 1)", 3).due("swan(0, 2)", 6).due("swan(0, 3)", 7);
        S.promise(15, "were it first (its own: it stays).").tell("r4,0;y1,0,1;p3,0,1;o0,0,1;").crumbs(2, 1)
            .due("swan(0, 3)", 2).due("swan(1, 3)", 2).due("swan(2, 3)", 0).due("days(1)", 3).places(2, 3, 0);
        S.promise(15, "BAD.").rich().bounded("swan", Run.to(0, 5), Run.to(0, 3));
        S.promise(15, "BAD.").riverless().refused("swan(0, 0)", BAD).refused("swan(0, 3)", BAD);
    }

    private static void lawn() {
        S.promise(16, "Of a LAWN: 0 CRUMBS, 1 whether there is a WEIR behind it (1, 0), 2 SWANS (bits), 3 PLOTS that its FAMILY OWNS (bits).")
            .tell("r9,3;p1,0,1;c1,8,1;y8,2,1;o1,3,1;p1,8,1;b8,4,1;").due("weir(1, 1)", 2).due("weir(7, 1)", 130).due("bread(8, 2)", 5)
            .due("lawn(0, 0)", 3).due("lawn(0, 1)", 0).due("lawn(0, 2)", 0).due("lawn(0, 3)", 0)
            .due("lawn(1, 0)", 3).due("lawn(1, 1)", 1).due("lawn(1, 2)", 27).due("lawn(1, 3)", 265)
            .due("lawn(2, 1)", 0).due("lawn(7, 1)", 1).due("lawn(8, 1)", 0)
            .due("lawn(8, 0)", 5).due("lawn(8, 2)", 36).due("lawn(8, 3)", 20);
        S.promise(16, "BAD.").rich().bounded("lawn", Run.to(0, 4), Run.to(0, 3));
        S.promise(16, "BAD.").riverless().refused("lawn(0, 0)", BAD);
    }
}
