/** Promises 17 to 33: what is foretold, by rivers small enough to follow by hand. */
public final class ForetoldTest {
    private static final Due DUE = new Due();
    private static final int BAD = SwanDeeds.BAD, STATE = SwanDeeds.STATE, NONE = SwanDeeds.NONE;

    public static void main(String[] args) {
        whereAndWhose();
        firstMoves();
        eveningsAndMeetings();
        staying();
        crusts();
        weirs();
        holding();
        fighting();
        doubling();
        whoByKinds();
        whoByBeginnings();
        whoByWeights();
        whichOnes();
        hungryOnes();
        sinking();
        drawing();
        nothingChanges();
        withoutRiver();
        DUE.end("ForetoldTest");
    }

    private static void whereAndWhose() {
        SwanDeeds x = Due.told("r4,0;o3,1,1;b0,2,2;");
        int[] old = {3, 2, 1, 0, 0};
        for (int n = 0; n < old.length; n++) {
            DUE.is("ahead", x.ahead(0, n), old[n]);
            DUE.is("ahead", x.ahead(1, n), 3 - old[n]);
        }
        DUE.is("ahead 60", x.ahead(0, 60), 0);
        DUE.is("ahead 61", x.ahead(0, 61), BAD);
        DUE.is("ahead -1", x.ahead(0, -1), BAD);
        DUE.is("swan 2", x.ahead(2, 0), BAD);
        DUE.is("swan -1", x.ahead(-1, 0), BAD);
        int[][] plots = {{4, 0, 0, 2}, {0, 4, 2, 0}, {0, 2, 4, 0}, {2, 0, 0, 4}};
        for (int n = 0; n < 4; n++) {
            for (int family = 0; family < 4; family++) {
                DUE.is("owns " + family + " " + n, x.owns(family, n), plots[n][family]);
            }
        }
        DUE.is("owns 60", x.owns(0, 60), 2);
        DUE.is("owns 61", x.owns(0, 61), BAD);
        DUE.is("owns -1", x.owns(0, -1), BAD);
        DUE.is("family 4", x.owns(4, 0), BAD);
        DUE.is("family -1", x.owns(-1, 0), BAD);
        DUE.is("nobody", x.nobody(0), 6);
        DUE.is("nobody", x.nobody(1), 9);
        DUE.is("nobody 60", x.nobody(60), 6);
        DUE.is("nobody 61", x.nobody(61), BAD);
        DUE.is("nobody -1", x.nobody(-1), BAD);
    }

    private static void firstMoves() {
        SwanDeeds x = Due.told("r2,5;o1,0,1;");
        DUE.is("moves", x.moves(0), 6);
        for (int i = 0; i < 6; i++) {
            x.bread(1, 9);
        }
        DUE.is("moves on the last day", x.moves(0), 60);
        x.bread(1, 1);
        DUE.is("moves a day too late", x.moves(0), NONE);
        DUE.is("swan 1", x.moves(1), BAD);
        DUE.is("swan -1", x.moves(-1), BAD);
    }

    private static void eveningsAndMeetings() {
        SwanDeeds x = Due.told("r4,0;o3,1,1;b0,2,2;");
        DUE.is("evening", x.evening(), NONE);
        DUE.is("meet", x.meet(0, 1), NONE);
        SwanDeeds y = Due.told("r3,0;o2,1,1;b0,2,2;");
        DUE.is("evening", y.evening(), 1);
        DUE.is("meet", y.meet(0, 1), 1);
        DUE.is("meet", y.meet(1, 0), 1);
        DUE.is("alike", y.meet(1, 1), BAD);
        DUE.is("swan 2", y.meet(0, 2), BAD);
        DUE.is("swan -1", y.meet(-1, 0), BAD);
        DUE.is("evening now", Due.told("r3,0;o2,1,1;b2,2,2;").evening(), 0);
        DUE.is("meet now", Due.told("r3,0;o2,1,1;b2,2,2;").meet(0, 1), 0);
        DUE.is("two of three", Due.told("r3,0;p1,1,1;b1,2,2;p0,0,1;").evening(), NONE);
        SwanDeeds late = Due.told("r2,0;o1,0,1;o0,0,1;");
        for (int i = 0; i < 6; i++) {
            late.bread(1, 9);
        }
        late.bread(1, 5);
        DUE.is("evening on the last day", late.evening(), 60);
        DUE.is("meet on the last day", late.meet(0, 1), 60);
        late.bread(1, 1);
        DUE.is("evening too late", late.evening(), NONE);
        DUE.is("meet too late", late.meet(0, 1), NONE);
    }

    private static void staying() {
        SwanDeeds x = Due.told("r4,0;o3,1,1;");
        DUE.is("stays", x.stays(0, 0, 5), 3);
        DUE.is("now does not count", x.stays(0, 3, 5), 0);
        DUE.is("stays", x.stays(0, 2, 60), 1);
        DUE.is("stays one day", x.stays(0, 2, 1), 1);
        DUE.is("stays", x.stays(0, 0, 60), 58);
        DUE.is("n 0", x.stays(0, 0, 0), BAD);
        DUE.is("n 61", x.stays(0, 0, 61), BAD);
        DUE.is("lawn 4", x.stays(0, 4, 1), BAD);
        DUE.is("lawn -1", x.stays(0, -1, 1), BAD);
        DUE.is("swan 1", x.stays(1, 0, 1), BAD);
    }

    private static void crustsAre(SwanDeeds x, int lawn, int n, int size, int set) {
        DUE.is("crusts " + lawn + " " + n, x.crusts(0, lawn, n, 0), size);
        DUE.is("which crusts " + lawn + " " + n, x.crusts(0, lawn, n, 1), set);
    }

    private static void crusts() {
        SwanDeeds old = Due.told("r3,0;o2,0,1;");
        crustsAre(old, 1, 1, 0, 0);
        crustsAre(old, 2, 1, 1, 4);
        crustsAre(old, 0, 1, NONE, NONE);
        crustsAre(old, 2, 9, 1, 4);
        crustsAre(old, 2, 10, NONE, NONE);
        crustsAre(old, 0, 20, 0, 0);
        SwanDeeds pen = Due.told("r5,0;p2,0,1;");
        crustsAre(pen, 1, 1, 1, 1);
        crustsAre(pen, 3, 1, 1, 8);
        crustsAre(pen, 2, 1, 0, 0);
        // four off is out of sight: lawn 2 leads it on to where lawn 4 is seen
        crustsAre(Due.told("r5,0;p0,0,1;"), 4, 4, 2, 20);
        // 99 lie there at most, so that lawn 2 never has more than lawn 0
        SwanDeeds full = Due.told("r3,0;p1,0,1;");
        for (int i = 0; i < 11; i++) {
            full.bread(0, 9);
        }
        for (int i = 0; i < 10; i++) {
            full.bread(2, 9);
        }
        full.bread(2, 8);
        crustsAre(full, 2, 1, NONE, NONE);
        crustsAre(full, 0, 1, 0, 0);
        DUE.is("n 0", pen.crusts(0, 0, 0, 0), BAD);
        DUE.is("n 21", pen.crusts(0, 0, 21, 0), BAD);
        DUE.is("what 2", pen.crusts(0, 0, 1, 2), BAD);
        DUE.is("what -1", pen.crusts(0, 0, 1, -1), BAD);
        DUE.is("lawn 5", pen.crusts(0, 5, 1, 0), BAD);
        DUE.is("swan 1", pen.crusts(1, 0, 1, 0), BAD);
    }

    private static void weirsAre(SwanDeeds x, int lawn, int n, int size, int set) {
        DUE.is("weirs " + lawn + " " + n, x.weirs(0, lawn, n, 0), size);
        DUE.is("which weirs " + lawn + " " + n, x.weirs(0, lawn, n, 1), set);
    }

    private static void weirs() {
        SwanDeeds x = Due.told("r3,0;o2,0,1;");
        weirsAre(x, 2, 2, 1, 2);
        weirsAre(x, 1, 2, 1, 1);
        weirsAre(x, 0, 2, 0, 0);
        weirsAre(x, 0, 1, NONE, NONE);
        weirsAre(x, 2, 20, 1, 2);
        x.weir(0, 1);
        weirsAre(x, 2, 2, 1, 2);
        weirsAre(x, 1, 2, 0, 0);
        weirsAre(x, 0, 2, NONE, NONE);
        x.weir(1, 1);
        weirsAre(x, 2, 2, 0, 0);
        weirsAre(x, 1, 2, NONE, NONE);
        // a pen between two sights of bread: both have to be barred to keep it
        SwanDeeds pen = Due.told("r5,9;p2,0,1;");
        pen.bread(0, 9);
        pen.bread(4, 9);
        weirsAre(pen, 2, 1, 2, 5);
        weirsAre(pen, 3, 1, 1, 1);
        DUE.is("n 0", x.weirs(0, 0, 0, 0), BAD);
        DUE.is("n 21", x.weirs(0, 0, 21, 0), BAD);
        DUE.is("what 2", x.weirs(0, 0, 1, 2), BAD);
        DUE.is("lawn 3", x.weirs(0, 3, 1, 0), BAD);
        DUE.is("swan -1", x.weirs(-1, 0, 1, 0), BAD);
    }

    private static void holdIs(SwanDeeds x, int swan, int lawn, int days) {
        DUE.is("hold which", x.hold(swan, 0), lawn);
        DUE.is("hold how long", x.hold(swan, 1), days);
    }

    private static void holding() {
        holdIs(Due.told("r3,0;o2,0,1;"), 0, 2, 9);
        holdIs(Due.told("r2,0;p1,0,1;"), 0, 1, 60);
        holdIs(Due.told("r2,0;b1,0,1;"), 0, 0, 60);
        SwanDeeds x = Due.told("r3,0;p1,0,1;");
        for (int i = 0; i < 11; i++) {
            x.bread(0, 9);
        }
        holdIs(x, 0, 0, 0);
        DUE.is("what 2", x.hold(0, 2), BAD);
        DUE.is("what -1", x.hold(0, -1), BAD);
        DUE.is("swan 1", x.hold(1, 0), BAD);
    }

    private static void fighting() {
        SwanDeeds x = Due.told("r3,0;c2,0,3;c2,1,3;c2,2,5;");
        DUE.is("fights", x.fights(1), 2);
        DUE.is("fights", x.fights(2), 3);
        DUE.is("fights", x.fights(60), 3);
        x.weir(1, 1);
        DUE.is("they would, if they could", x.fights(2), 4);
        x.days(3);
        DUE.is("from now on", x.fights(1), 2);
        DUE.is("n 0", x.fights(0), BAD);
        DUE.is("n 61", x.fights(61), BAD);
    }

    private static void doubling() {
        SwanDeeds x = Due.told("r3,0;p0,1,1;p0,2,1;p0,1,1;p0,2,1;p0,1,1;");
        DUE.is("doubles", x.doubles(0), 4);
        DUE.is("first", x.doubles(1), 2);
        DUE.is("first", Due.told("r3,0;p0,0,1;p0,1,1;p0,2,1;p0,2,1;p0,1,1;").doubles(1), 14);
        DUE.is("first", Due.told("r3,0;p0,0,1;p0,1,1;p0,1,1;p0,0,1;").doubles(1), 3);
        DUE.is("side by side", Due.told("r3,0;p0,0,1;p0,1,1;p0,1,1;").doubles(1), 12);
        DUE.is("none", Due.told("r3,0;p0,0,1;p0,1,1;").doubles(0), 0);
        DUE.is("none", Due.told("r3,0;p0,0,1;p0,1,1;").doubles(1), NONE);
        DUE.is("what 2", x.doubles(2), BAD);
        DUE.is("what -1", x.doubles(-1), BAD);
    }

    private static void whoByKinds() {
        SwanDeeds x = Due.told("r3,0;p1,0,1;");
        Due.fill(x, 0, 0, 1, 2, 2, 3, -1);
        DUE.is("old", x.who(0, 0, 0, 0, 0, 1), 16);
        DUE.is("pen, cob, cygnet", x.who(0, 0, 0, 0, 1, 1), 14);
        DUE.is("black", x.who(0, 0, 0, 0, 2, 2), 32);
        DUE.is("none", x.who(0, 0, 0, 0, 1, 2), 0);
        DUE.is("no such lawn", x.who(0, 0, 0, 0, 4, 1), 0);
        DUE.is("no such lawn", x.who(0, 0, 0, 0, 5, 1), 0);
        DUE.is("which -1", x.who(0, -1, 0, 0, 0, 1), BAD);
        DUE.is("which 3", x.who(0, 3, 0, 0, 0, 1), BAD);
        DUE.is("swan 1", x.who(1, 0, 0, 0, 0, 1), BAD);
        DUE.is("other 1", x.who(0, 0, 1, 0, 0, 1), BAD);
        DUE.is("other -1", x.who(0, 0, -1, 0, 0, 1), BAD);
        DUE.is("row 8", x.who(0, 0, 0, 8, 0, 1), BAD);
        DUE.is("n 0", x.who(0, 0, 0, 0, 0, 0), BAD);
        DUE.is("n 13", x.who(0, 0, 0, 0, 0, 13), BAD);
        DUE.is("BAD ahead of NULL", x.who(0, 0, 0, 1, 0, 13), BAD);
        DUE.is("NULL ahead of PLACE", x.who(0, 0, 0, 1, -1, 1), Due.NULL);
        DUE.is("i -1", x.who(0, 0, 0, 0, -1, 1), Due.PLACE);
        DUE.is("beyond", x.who(0, 0, 0, 0, 5, 2), Due.PLACE);
        DUE.is("wraps", x.who(0, 0, 0, 0, Integer.MAX_VALUE, 1), Due.PLACE);
        SwanDeeds cobs = Due.told("r3,0;c1,0,5;c1,1,6;");
        Due.fill(cobs, 0, 0);
        DUE.is("beaten by a cob only", cobs.who(1, 0, 0, 0, 0, 1), 4);
        SwanDeeds long12 = Due.told("r2,0;b1,0,1;");
        long12.row(0, 0, 12);
        for (int i = 0; i < 12; i++) {
            long12.set(0, i, 1);
        }
        DUE.is("12 days", long12.who(0, 0, 0, 0, 0, 12), 46);
        long12.set(0, 11, 0);
        DUE.is("the 12th counts", long12.who(0, 0, 0, 0, 0, 12), 0);
    }

    private static void whoByBeginnings() {
        SwanDeeds x = Due.told("r3,0;p1,0,1;");
        Due.fill(x, 0, 2);
        DUE.is("itself", x.who(0, 1, 0, 0, 0, 1), 4);
        SwanDeeds cobs = Due.told("r3,0;c1,0,5;c1,1,6;");
        Due.fill(cobs, 0, 0, 1);
        DUE.is("another", cobs.who(1, 1, 0, 0, 0, 1), 2);
        DUE.is("another", cobs.who(1, 1, 0, 0, 1, 1), 5);
        SwanDeeds old = Due.told("r9,0;o1,0,1;");
        Due.fill(old, 0, 7, 6);
        DUE.is("the highest lawn", old.who(0, 1, 0, 0, 0, 2), 256);
        Due.fill(old, 0, 0, 0);
        DUE.is("two lawns", old.who(0, 1, 0, 0, 0, 2), 3);
    }

    private static void whoByWeights() {
        SwanDeeds x = Due.told("r3,0;c1,0,5;c1,1,6;");
        Due.fill(x, 0, 0, 1);
        DUE.is("beaten", x.who(0, 2, 0, 0, 0, 1), 62);
        DUE.is("not beaten", x.who(0, 2, 0, 0, 1, 1), 960);
        DUE.is("beats another", x.who(0, 2, 1, 0, 0, 1), 960);
        DUE.is("beaten by another", x.who(1, 2, 0, 0, 0, 1), 960);
    }

    private static void whichOnes() {
        SwanDeeds x = Due.told("r5,0;o4,0,1;b0,0,1;p2,0,1;");
        Due.fill(x, 0, 3, 2, 1, 0, 1, 2, 2, 2);
        DUE.is("the old one", x.which(0, 0, 4), 1);
        DUE.is("the black one", x.which(0, 4, 2), 2);
        DUE.is("the pen", x.which(0, 5, 3), 4);
        DUE.is("none", x.which(0, 3, 1), 0);
        SwanDeeds y = Due.told("r3,0;o1,0,1;b0,0,1;p0,0,1;");
        Due.fill(y, 0, 0);
        DUE.is("two", y.which(0, 0, 1), 5);
        DUE.is("n 0", x.which(0, 0, 0), BAD);
        DUE.is("n 13", x.which(0, 0, 13), BAD);
        DUE.is("row -1", x.which(-1, 0, 1), BAD);
        DUE.is("row 8", x.which(8, 0, 1), BAD);
        DUE.is("BAD ahead of NULL", x.which(1, 0, 0), BAD);
        DUE.is("missing", x.which(1, -1, 1), Due.NULL);
        DUE.is("i -1", x.which(0, -1, 1), Due.PLACE);
        DUE.is("beyond", x.which(0, 7, 2), Due.PLACE);
    }

    private static void hungryOnes() {
        SwanDeeds x = Due.told("r2,1;o1,0,1;o1,0,1;o1,0,1;");
        DUE.is("hungry", x.hungry(1), 4);
        DUE.is("hungry", x.hungry(60), 4);
        SwanDeeds y = Due.told("r3,0;o2,0,1;p2,0,1;");
        y.bread(0, 1);
        DUE.is("hungry on the first day", y.hungry(1), 3);
        DUE.is("hungry till it is there", y.hungry(2), 2);
        y.days(2);
        DUE.is("from now on", y.hungry(1), 3);
        DUE.is("n 0", x.hungry(0), BAD);
        DUE.is("n 61", x.hungry(61), BAD);
    }

    private static void sinkIs(SwanDeeds x, int lawn, int p, long above, long below) {
        DUE.is("sink " + lawn + " " + p, x.sink(0, lawn, p, 0), above);
        DUE.is("sink below " + lawn + " " + p, x.sink(0, lawn, p, 1), below);
    }

    private static void sinking() {
        SwanDeeds x = Due.told("r2,1;o1,0,1;");
        sinkIs(x, 0, 3, 3, 10);
        sinkIs(x, 1, 3, 7, 10);
        sinkIs(x, 0, 5, 1, 2);
        sinkIs(x, 0, 0, 0, 1);
        sinkIs(x, 1, 0, 1, 1);
        sinkIs(x, 0, 10, 1, 1);
        sinkIs(x, 1, 10, 0, 1);
        SwanDeeds pen = Due.told("r3,0;p1,0,1;");
        pen.bread(0, 1);
        pen.bread(2, 1);
        sinkIs(pen, 0, 4, 3, 5);
        sinkIs(pen, 1, 4, 4, 25);
        sinkIs(pen, 2, 4, 6, 25);
        sinkIs(Due.told("r2,0;p1,0,1;"), 1, 7, 1, 1);
        SwanDeeds nine = Due.told("r9,1;p4,0,1;");
        sinkIs(nine, 4, 3, 70243, 100000);
        sinkIs(nine, 0, 3, 0, 1);
        DUE.is("p 11", x.sink(0, 0, 11, 0), BAD);
        DUE.is("p -1", x.sink(0, 0, -1, 0), BAD);
        DUE.is("what 2", x.sink(0, 0, 1, 2), BAD);
        DUE.is("lawn 2", x.sink(0, 2, 1, 0), BAD);
        DUE.is("swan 1", x.sink(1, 0, 1, 0), BAD);
    }

    /** From 1 on X is 16807, 282475249, 1622650073, 984943658, 1144108930, 470211272. */
    private static void drawing() {
        SwanDeeds x = Due.told("r2,0;o1,0,1;");
        DUE.is("five days on lawn 1", x.drawn(5, 1, 1), 0);
        DUE.is("gone on the sixth", x.drawn(6, 1, 1), 1);
        DUE.is("there it stays", x.drawn(60, 1, 1), 1);
        DUE.is("one family", x.drawn(6, 1, 0), 1);
        SwanDeeds y = Due.told("r2,0;o1,0,1;o0,0,1;");
        DUE.is("two families", y.drawn(5, 1, 0), 2);
        DUE.is("one family", y.drawn(6, 1, 0), 1);
        DUE.is("none drawn", y.drawn(0, 1, 0), 2);
        DUE.is("none drawn", y.drawn(0, 999999, 1), 0);
        DUE.is("n 61", x.drawn(61, 1, 0), BAD);
        DUE.is("n -1", x.drawn(-1, 1, 0), BAD);
        DUE.is("seed 0", x.drawn(1, 0, 0), BAD);
        DUE.is("seed 1000000", x.drawn(1, 1000000, 0), BAD);
        DUE.is("what 2", x.drawn(1, 1, 2), BAD);
        DUE.is("what -1", x.drawn(1, 1, -1), BAD);
    }

    private static void nothingChanges() {
        SwanDeeds x = Due.told("r5,2;p0,0,1;c1,1,2;y2,2,3;o3,3,4;b4,4,5;");
        x.days(1);
        Due.fill(x, 0, 1, 2);
        x.ahead(0, 9);
        x.owns(0, 9);
        x.nobody(9);
        x.moves(0);
        x.evening();
        x.stays(0, 0, 9);
        x.crusts(0, 4, 3, 0);
        x.weirs(0, 4, 3, 0);
        x.hold(0, 0);
        x.meet(0, 1);
        x.fights(9);
        x.who(0, 0, 1, 0, 0, 2);
        x.who(0, 1, 1, 0, 0, 2);
        x.who(0, 2, 1, 0, 0, 2);
        x.which(0, 0, 2);
        x.hungry(9);
        x.sink(0, 0, 5, 0);
        x.drawn(9, 7, 0);
        SwanDeeds y = Due.told("r5,2;p0,0,1;c1,1,2;y2,2,3;o3,3,4;b4,4,5;");
        y.days(1);
        for (int what = 1; what < 8; what++) {
            DUE.is("count", x.count(what), y.count(what));
        }
        for (int swan = 0; swan < 5; swan++) {
            DUE.is("kind", x.kind(swan), y.kind(swan));
            for (int what = 0; what < 4; what++) {
                DUE.is("swan", x.swan(swan, what), y.swan(swan, what));
            }
        }
        for (int lawn = 0; lawn < 5; lawn++) {
            for (int what = 0; what < 4; what++) {
                DUE.is("lawn", x.lawn(lawn, what), y.lawn(lawn, what));
            }
        }
    }

    private static void withoutRiver() {
        SwanDeeds x = new SwanDeeds();
        x.row(0, 0, 3);
        DUE.is("nobody", x.nobody(-1), STATE);
        DUE.is("evening", x.evening(), STATE);
        DUE.is("fights", x.fights(0), STATE);
        DUE.is("doubles", x.doubles(2), STATE);
        DUE.is("which", x.which(9, 0, 1), STATE);
        DUE.is("which", x.which(1, 0, 1), STATE);
        DUE.is("hungry", x.hungry(0), STATE);
        DUE.is("drawn", x.drawn(-1, 0, 2), STATE);
        DUE.is("ahead", x.ahead(0, 0), BAD);
        DUE.is("owns", x.owns(0, 0), BAD);
        DUE.is("moves", x.moves(0), BAD);
        DUE.is("stays", x.stays(0, 0, 1), BAD);
        DUE.is("crusts", x.crusts(0, 0, 1, 0), BAD);
        DUE.is("weirs", x.weirs(0, 0, 1, 0), BAD);
        DUE.is("hold", x.hold(0, 0), BAD);
        DUE.is("meet", x.meet(0, 1), BAD);
        DUE.is("who", x.who(0, 0, 0, 0, 0, 1), BAD);
        DUE.is("sink", x.sink(0, 0, 0, 0), BAD);
    }
}
