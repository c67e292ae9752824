/** Promises 9 to 16: how swans swim, eat and fight, what is done, and how it is undone. */
public final class ActsTest {
    private static final Due DUE = new Due();
    private static final int BAD = SwanDeeds.BAD, STATE = SwanDeeds.STATE, FULL = SwanDeeds.FULL;

    public static void main(String[] args) {
        goals();
        goalsOfCobs();
        goalsAtEnds();
        eatingInTurn();
        cobsFight();
        breadAndWeirs();
        frightsAndWeights();
        lawns();
        undoing();
        manyDays();
        refusals();
        DUE.end("ActsTest");
    }

    private static void goalsAre(SwanDeeds x, int... goals) {
        for (int swan = 0; swan < goals.length; swan++) {
            DUE.is("goal of " + swan, x.swan(swan, 3), goals[swan]);
        }
    }

    private static void placesAre(SwanDeeds x, int... places) {
        for (int swan = 0; swan < places.length; swan++) {
            DUE.is("place of " + swan, x.swan(swan, 0), places[swan]);
        }
    }

    /** A pen, a cygnet, an old one, a black one and a cob on lawn 4 of nine. */
    private static void goals() {
        SwanDeeds x = Due.told("r9,0;p4,0,1;y4,1,1;o4,2,1;b4,3,1;c4,4,1;");
        goalsAre(x, 4, 4, 3, 5, 4);
        x.bread(7, 9);
        x.bread(1, 9);
        goalsAre(x, 4, 4, 3, 5, 4);
        x.bread(6, 2);
        goalsAre(x, 5, 4, 3, 5, 5);
        x.bread(2, 2);
        goalsAre(x, 3, 4, 3, 5, 3);
        x.bread(5, 2);
        goalsAre(x, 5, 5, 3, 5, 5);
        x.bread(3, 2);
        goalsAre(x, 3, 3, 3, 5, 3);
        x.bread(4, 2);
        goalsAre(x, 4, 4, 4, 4, 4);
        x.bread(5, 1);
        goalsAre(x, 5, 5, 4, 4, 5);
        x.weir(4, 1);
        goalsAre(x, 4, 4, 4, 4, 4);
        x.bread(6, 9);
        goalsAre(x, 4, 4, 4, 4, 4);
        x.bread(2, 5);
        goalsAre(x, 3, 4, 4, 4, 3);
        x.weir(2, 1);
        goalsAre(x, 4, 4, 4, 4, 4);
    }

    private static void goalsOfCobs() {
        SwanDeeds x = Due.told("r5,0;c2,0,1;c3,0,2;p2,0,1;");
        x.bread(3, 9);
        goalsAre(x, 2, 3, 3);
        x.bread(1, 1);
        goalsAre(x, 1, 3, 3);
        SwanDeeds y = Due.told("r5,0;c2,0,1;c2,0,2;");
        y.bread(2, 9);
        goalsAre(y, 2, 2);
        y.bread(3, 1);
        goalsAre(y, 3, 3);
    }

    private static void goalsAtEnds() {
        SwanDeeds x = Due.told("r2,0;o0,0,1;b1,0,1;o1,0,1;b0,0,1;p0,0,1;p1,0,1;");
        goalsAre(x, 0, 1, 0, 1, 0, 1);
        x.weir(0, 1);
        goalsAre(x, 0, 1, 1, 0, 0, 1);
    }

    private static void eatingInTurn() {
        SwanDeeds x = Due.told("r2,0;o1,0,1;o1,1,1;");
        x.bread(1, 1);
        DUE.is("families", x.days(1), 2);
        placesAre(x, 1, 0);
        DUE.is("crumbs", x.count(4), 0);
        DUE.is("DAY", x.count(3), 1);
        DUE.is("families", x.days(1), 1);
        placesAre(x, 0, 0);
        // the pen eats the one crumb ahead of the cygnet, which then sees none
        SwanDeeds y = Due.told("r4,0;p1,0,1;y3,0,1;");
        y.bread(2, 1);
        goalsAre(y, 2, 2);
        y.days(1);
        placesAre(y, 2, 3);
        // two off it takes two days, and on the way it eats nothing that is not there
        SwanDeeds z = Due.told("r4,0;p1,0,1;");
        z.bread(3, 2);
        z.days(1);
        placesAre(z, 2);
        DUE.is("crumbs", z.lawn(3, 0), 2);
        z.days(1);
        placesAre(z, 3);
        DUE.is("crumbs", z.lawn(3, 0), 1);
    }

    private static void cobsFight() {
        SwanDeeds x = Due.told("r3,0;c2,0,3;c2,1,3;c2,2,5;");
        DUE.is("families", x.days(1), 2);
        placesAre(x, 1, 1, 2);
        DUE.is("families", x.days(1), 3);
        placesAre(x, 1, 0, 2);
        x.days(5);
        placesAre(x, 1, 0, 2);
        SwanDeeds y = Due.told("r3,0;c2,0,3;c2,1,3;c2,2,5;");
        y.weir(1, 1);
        y.days(3);
        placesAre(y, 2, 2, 2);
        // who is sent down fights no more on that day
        SwanDeeds z = Due.told("r3,0;c2,0,9;c2,0,1;c1,0,1;");
        z.days(1);
        placesAre(z, 2, 1, 1);
        z.days(1);
        placesAre(z, 2, 1, 0);
        // no one else fights, and weights of others are nothing to it
        SwanDeeds other = Due.told("r3,0;c2,0,1;p2,0,9;y2,0,9;b2,0,9;");
        other.days(1);
        placesAre(other, 2, 2, 2, 2);
    }

    private static void breadAndWeirs() {
        SwanDeeds x = Due.told("r3,0;p0,0,1;");
        DUE.is("bread", x.bread(2, 9), 9);
        DUE.is("bread", x.bread(2, 1), 10);
        DUE.is("acts", x.count(6), 2);
        for (int i = 0; i < 9; i++) {
            x.bread(2, 9);
        }
        DUE.is("bread", x.bread(2, 9), 99);
        DUE.is("bread", x.bread(2, 9), 99);
        DUE.is("n 0", x.bread(2, 0), BAD);
        DUE.is("n 10", x.bread(2, 10), BAD);
        DUE.is("lawn 3", x.bread(3, 1), BAD);
        DUE.is("lawn -1", x.bread(-1, 1), BAD);
        DUE.is("weir", x.weir(1, 1), 2);
        DUE.is("weir", x.weir(0, 1), 3);
        DUE.is("it is so", x.weir(0, 1), STATE);
        DUE.is("torn down", x.weir(1, 0), 1);
        DUE.is("it is so", x.weir(1, 0), STATE);
        DUE.is("no next lawn", x.weir(2, 1), BAD);
        DUE.is("no next lawn", x.weir(2, 0), BAD);
        DUE.is("lawn -1", x.weir(-1, 1), BAD);
        DUE.is("on 2", x.weir(0, 2), BAD);
        DUE.is("on -1", x.weir(0, -1), BAD);
        DUE.is("lawn max", x.weir(Integer.MAX_VALUE, 1), BAD);
    }

    private static void frightsAndWeights() {
        SwanDeeds x = Due.told("r3,0;p0,0,7;p2,0,1;");
        DUE.is("down from the first", x.frighten(0, 0), STATE);
        DUE.is("up", x.frighten(0, 1), 1);
        DUE.is("up from the last", x.frighten(1, 1), STATE);
        DUE.is("acts", x.count(6), 1);
        x.weir(1, 1);
        DUE.is("barred up", x.frighten(0, 1), STATE);
        DUE.is("barred down", x.frighten(1, 0), STATE);
        DUE.is("down", x.frighten(0, 0), 0);
        DUE.is("up 2", x.frighten(0, 2), BAD);
        DUE.is("up -1", x.frighten(0, -1), BAD);
        DUE.is("swan 2", x.frighten(2, 1), BAD);
        DUE.is("swan -1", x.frighten(-1, 1), BAD);
        DUE.is("weight", x.weight(0, 9), 7);
        DUE.is("weight", x.weight(0, 1), 9);
        DUE.is("weight", x.swan(0, 2), 1);
        DUE.is("weight 0", x.weight(0, 0), BAD);
        DUE.is("weight 10", x.weight(0, 10), BAD);
        DUE.is("swan 2", x.weight(2, 1), BAD);
        DUE.is("what -1", x.swan(0, -1), BAD);
        DUE.is("what 4", x.swan(0, 4), BAD);
        DUE.is("swan 2", x.swan(2, 0), BAD);
    }

    private static void lawns() {
        SwanDeeds x = Due.told("r4,3;p1,0,1;c1,3,1;y3,2,1;o1,3,1;");
        x.weir(1, 1);
        int[][] due = {{3, 0, 0, 0}, {3, 1, 11, 9}, {3, 0, 0, 0}, {3, 0, 4, 4}};
        for (int lawn = 0; lawn < 4; lawn++) {
            for (int what = 0; what < 4; what++) {
                DUE.is("lawn " + lawn + " " + what, x.lawn(lawn, what), due[lawn][what]);
            }
        }
        DUE.is("lawn 4", x.lawn(4, 0), BAD);
        DUE.is("lawn -1", x.lawn(-1, 0), BAD);
        DUE.is("what 4", x.lawn(0, 4), BAD);
        DUE.is("what -1", x.lawn(0, -1), BAD);
    }

    private static void undoing() {
        SwanDeeds x = Due.told("r3,0;o2,0,4;");
        x.bread(2, 1);
        x.days(3);
        x.frighten(0, 1);
        x.weir(0, 1);
        x.weight(0, 4);
        DUE.is("acts", x.count(6), 7);
        DUE.is("undo a weight that was so", x.undo(), 6);
        DUE.is("the weir bars", x.swan(0, 3), 1);
        DUE.is("undo a weir", x.undo(), 5);
        DUE.is("weirs", x.count(5), 0);
        DUE.is("the way is free", x.swan(0, 3), 0);
        DUE.is("undo a fright", x.undo(), 4);
        DUE.is("place", x.swan(0, 0), 0);
        DUE.is("undo a day", x.undo(), 3);
        DUE.is("place", x.swan(0, 0), 1);
        DUE.is("DAY", x.count(3), 2);
        DUE.is("undo", x.undo(), 2);
        DUE.is("undo", x.undo(), 1);
        DUE.is("DAY", x.count(3), 0);
        DUE.is("the crumb is back", x.lawn(2, 0), 1);
        DUE.is("undo", x.undo(), 0);
        DUE.is("no crumb", x.count(4), 0);
        DUE.is("none", x.undo(), STATE);
    }

    private static void manyDays() {
        SwanDeeds x = Due.told("r2,0;p0,0,1;");
        DUE.is("days", x.days(24), 1);
        x.weight(0, 5);
        DUE.is("the oldest is forgotten", x.count(6), 24);
        for (int left = 23; left >= 0; left--) {
            DUE.is("undo", x.undo(), left);
        }
        DUE.is("none", x.undo(), STATE);
        DUE.is("DAY", x.count(3), 1);
        for (int i = 0; i < 41; i++) {
            x.days(24);
        }
        DUE.is("DAY", x.count(3), 985);
        DUE.is("FULL", x.days(15), FULL);
        DUE.is("BAD ahead of FULL", x.days(25), BAD);
        DUE.is("days", x.days(14), 1);
        DUE.is("DAY", x.count(3), 999);
        DUE.is("FULL", x.days(1), FULL);
        DUE.is("foretold all the same", x.ahead(0, 60), 0);
        DUE.is("undo", x.undo(), 23);
        DUE.is("FULL", x.days(2), FULL);
        DUE.is("days", x.days(1), 1);
    }

    private static void refusals() {
        SwanDeeds none = new SwanDeeds();
        DUE.is("no river", none.days(1), STATE);
        DUE.is("STATE ahead of BAD", none.days(0), STATE);
        DUE.is("no lawn", none.bread(0, 1), BAD);
        DUE.is("no lawn", none.weir(0, 1), BAD);
        DUE.is("no swan", none.frighten(0, 1), BAD);
        DUE.is("no swan", none.weight(0, 1), BAD);
        DUE.is("no swan", none.swan(0, 0), BAD);
        DUE.is("no lawn", none.lawn(0, 0), BAD);
        SwanDeeds x = Due.told("r2,0;p0,0,1;");
        DUE.is("no days", x.days(0), BAD);
        DUE.is("25 days", x.days(25), BAD);
        DUE.is("days below 0", x.days(Integer.MIN_VALUE), BAD);
        DUE.is("nothing was done", x.count(6), 0);
    }
}
