/** Promises 34 to 40: images, kinds, asks, the trace, and what is counted. */
public final class AsksTest {
    private static final Due DUE = new Due();
    private static final int BAD = SwanDeeds.BAD, STATE = SwanDeeds.STATE, NONE = SwanDeeds.NONE;

    public static void main(String[] args) {
        images();
        kinds();
        asks();
        traces();
        counts();
        DUE.end("AsksTest");
    }

    private static void images() {
        SwanDeeds x = new SwanDeeds();
        DUE.is("no river", x.image(0), STATE);
        DUE.is("BAD ahead of STATE", x.image(2), BAD);
        DUE.is("k -1", x.image(-1), BAD);
        DUE.is("none was kept", x.restore(0), STATE);
        DUE.is("k 2", x.restore(2), BAD);
        DUE.is("k -1", x.restore(-1), BAD);
        Due.tell(x, "r3,1;o2,1,4;c0,2,5;");
        x.weir(0, 1);
        x.days(2);
        DUE.is("image", x.image(0), 1);
        DUE.is("none was kept there", x.restore(1), STATE);
        x.days(3);
        x.weir(0, 0);
        x.bread(0, 9);
        x.weight(1, 9);
        DUE.is("image", x.image(1), 1);
        Due.tell(x, "r9,2;p8,8,8;");
        DUE.is("restore", x.restore(0), 1);
        DUE.is("acts", x.count(6), 0);
        DUE.is("undo", x.undo(), STATE);
        int[] due = {0, 3, 2, 2, 0, 1, 0, 0};
        for (int what = 0; what < 8; what++) {
            DUE.is("count " + what, x.count(what), due[what]);
        }
        DUE.is("place", x.swan(0, 0), 1);
        DUE.is("plot", x.swan(1, 1), 2);
        DUE.is("weight", x.swan(1, 2), 5);
        DUE.is("kind", x.kind(1), 2);
        x.bread(2, 4);
        DUE.is("restore again", x.restore(0), 1);
        DUE.is("no act can be undone then", x.undo(), STATE);
        DUE.is("what is done does not reach the image", x.lawn(2, 0), 0);
        DUE.is("restore the other", x.restore(1), 1);
        DUE.is("DAY", x.count(3), 5);
        DUE.is("weight", x.swan(1, 2), 9);
        DUE.is("weirs", x.count(5), 0);
        x.image(0);
        x.restore(0);
        DUE.is("a newer image stands in place of the older", x.count(3), 5);
    }

    private static void kinds() {
        SwanDeeds x = Due.told("r6,0;p1,0,2;c2,0,3;y3,0,4;o4,0,5;b5,0,6;");
        boolean[][] is = {
            {true, true, false, false, false, false},
            {true, true, true, false, false, false},
            {true, true, false, true, false, false},
            {true, false, false, false, true, false},
            {true, false, false, false, true, true}};
        for (int swan = 0; swan < 5; swan++) {
            DUE.is("kind", x.kind(swan), swan + 1);
            for (int kind = 0; kind < 6; kind++) {
                DUE.is("as " + swan + " " + kind, x.as(swan, kind), is[swan][kind] ? swan : Due.KIND);
            }
            DUE.is("it stays what it is", x.kind(swan), swan + 1);
        }
        DUE.is("kind 5", x.kind(5), BAD);
        DUE.is("kind -1", x.kind(-1), BAD);
        DUE.is("as of 5", x.as(5, 0), BAD);
        DUE.is("as of -1", x.as(-1, 0), BAD);
        DUE.is("as 6", x.as(0, 6), BAD);
        DUE.is("as -1", x.as(0, -1), BAD);
    }

    private static void askIs(SwanDeeds x, int one, int what, int answer, int... bodies) {
        DUE.is("ask " + one + " " + what, x.ask(one, what), answer);
        for (int i = 0; i < bodies.length; i++) {
            DUE.is("trace of " + one + " " + what + " at " + i, x.trace(i), bodies[i]);
        }
        DUE.is("trace of " + one + " " + what + " ends", x.trace(bodies.length), NONE);
    }

    private static void asks() {
        SwanDeeds x = Due.told("r6,0;p1,0,2;c2,0,3;y3,0,4;o4,0,5;b5,0,6;");
        askIs(x, 0, 0, 3, 11, 10, 21, 20);
        askIs(x, 0, 1, 1, 21, 20);
        askIs(x, 1, 0, -9, 12, 11, 10, 24, 21, 20);
        askIs(x, 1, 1, 6, 24, 21, 20);
        askIs(x, 2, 0, -991, 11, 10, 22, 21, 20);
        askIs(x, 2, 1, -995, 22, 21, 20);
        askIs(x, 3, 0, -95, 13, 10);
        askIs(x, 3, 1, 98, 23, 20, 13, 10);
        askIs(x, 4, 0, -188, 14, 13, 10);
        askIs(x, 4, 1, 192, 23, 20, 14, 13, 10);
        x.weight(1, 9);
        x.frighten(1, 1);
        askIs(x, 1, 0, -17, 12, 11, 10, 24, 21, 20);
    }

    private static void traces() {
        SwanDeeds x = new SwanDeeds();
        DUE.is("trace", x.trace(0), NONE);
        DUE.is("no swan", x.ask(0, 0), BAD);
        Due.tell(x, "r6,0;p1,0,2;");
        x.ask(0, 1);
        DUE.is("swan 1", x.ask(1, 0), BAD);
        DUE.is("swan -1", x.ask(-1, 0), BAD);
        DUE.is("what 2", x.ask(0, 2), BAD);
        DUE.is("what -1", x.ask(0, -1), BAD);
        DUE.is("a refused ask leaves it", x.trace(0), 21);
        Due.tell(x, "r6,0;o1,0,2;");
        DUE.is("another river leaves it", x.trace(1), 20);
        DUE.is("trace -1", x.trace(-1), NONE);
        DUE.is("trace 2", x.trace(2), NONE);
        DUE.is("trace 16", x.trace(16), NONE);
        DUE.is("trace max", x.trace(Integer.MAX_VALUE), NONE);
        DUE.is("trace min", x.trace(Integer.MIN_VALUE), NONE);
    }

    private static void counts() {
        SwanDeeds x = Due.told("r4,3;p1,0,2;y0,0,1;");
        x.row(0, 0, 0);
        x.row(5, 0, 5);
        x.feed('r');
        x.bread(0, 2);
        x.weir(2, 1);
        x.days(1);
        int[] due = {2, 4, 2, 1, 12, 4, 3, 1};
        for (int what = 0; what < 8; what++) {
            DUE.is("count " + what, x.count(what), due[what]);
        }
        DUE.is("count 8", x.count(8), BAD);
        DUE.is("count -1", x.count(-1), BAD);
    }
}
