/** Promises 6 to 8: what is told, and its faults. */
public final class TapeTest {
    private static final Due DUE = new Due();
    private static final String SIX = "r2,0;p0,0,1;c0,0,1;y0,0,1;o0,0,1;b0,0,1;p1,1,9;";

    public static void main(String[] args) {
        feeding();
        faults();
        soundOnes();
        whatStays();
        DUE.end("TapeTest");
    }

    private static void feeding() {
        SwanDeeds x = new SwanDeeds();
        DUE.is("feed 0", x.feed(0), 1);
        DUE.is("feed 255", x.feed(255), 2);
        DUE.is("feed -1", x.feed(-1), SwanDeeds.BAD);
        DUE.is("feed 256", x.feed(256), SwanDeeds.BAD);
        for (int n = 3; n <= 100; n++) {
            DUE.is("feed", x.feed('5'), n);
        }
        DUE.is("feed on a full tape", x.feed('5'), SwanDeeds.FULL);
        DUE.is("BAD ahead of FULL", x.feed(256), SwanDeeds.BAD);
        DUE.is("bytes", x.count(7), 100);
        DUE.is("river", x.river(), -1000100);
        DUE.is("bytes", x.count(7), 0);
        DUE.is("feed", x.feed('5'), 1);
    }

    private static void faults() {
        fault("", 0, 1);
        fault("r", 1, 1);
        fault("x", 0, 1);
        fault("R2,0;p0,0,1;", 0, 1);
        fault(" r2,0;p0,0,1;", 0, 1);
        fault("p0,0,1;", 0, 1);
        fault("2", 0, 1);
        fault("r1,0;p0,0,1;", 1, 2);
        fault("r0,0;p0,0,1;", 1, 2);
        fault("r10,0;p0,0,1;", 1, 2);
        fault("r100,0;p0,0,1;", 1, 1);
        fault("r002,0;p0,0,1;", 1, 1);
        fault("r,0;", 1, 1);
        fault("rr", 1, 1);
        fault("r2;0;", 2, 1);
        fault("r2", 2, 1);
        fault("r2,10;p0,0,1;", 3, 2);
        fault("r2,;", 3, 1);
        fault("r2,000;", 3, 1);
        fault("r2,0,p0,0,1;", 4, 1);
        fault("r2,0;", 5, 1);
        fault("r2,0;r2,0;", 5, 1);
        fault("r2,0;q0,0,1;", 5, 1);
        fault("r2,0;,", 5, 1);
        fault("r2,0;7", 5, 1);
        fault("r2,0;p2,0,1;", 6, 2);
        fault("r9,0;p9,0,1;", 6, 2);
        fault("r2,0;p,0,1;", 6, 1);
        fault("r2,0;pp", 6, 1);
        fault("r2,0;p111,0,1;", 6, 1);
        fault("r2,0;p0;0,1;", 7, 1);
        fault("r2,0;p0,2,1;", 8, 2);
        fault("r2,0;p0,0;1;", 9, 1);
        fault("r2,0;p0,0,0;", 10, 2);
        fault("r2,0;p0,0,10;", 10, 2);
        fault("r2,0;p0,0,1", 11, 1);
        fault("r2,0;p0,0,1,", 11, 1);
        fault("r2,0;p0,0,1;;", 12, 1);
        fault("r2,0;p0,0,1;P", 12, 1);
        fault("r2,0;p0,0,1;" + (char) 200, 12, 1);
        fault("r2,0;p0,0,1;" + (char) 0, 12, 1);
        fault("r2,0;p 0,0,1;", 6, 1);
        fault("r1,99;q", 1, 2);
        fault(SIX + "p", 47, 3);
        fault(SIX + "b0,0,1;", 47, 3);
        fault(SIX + "q", 47, 1);
        fault(SIX + "7", 47, 1);
        fault(SIX + ";", 47, 1);
    }

    private static void fault(String text, int place, int number) {
        SwanDeeds x = new SwanDeeds();
        Due.feed(x, text);
        DUE.is("river " + text, x.river(), -1000100 - place);
        DUE.is("fault " + text, x.fault(), number);
        DUE.is("bytes " + text, x.count(7), 0);
        DUE.is("lawns " + text, x.count(1), 0);
    }

    private static void soundOnes() {
        SwanDeeds x = new SwanDeeds();
        Due.feed(x, SIX);
        DUE.is("river", x.river(), 6);
        DUE.is("lawns", x.count(1), 2);
        for (int swan = 0; swan < 5; swan++) {
            DUE.is("kind", x.kind(swan), swan + 1);
        }
        DUE.is("lawn of the last", x.swan(5, 0), 1);
        DUE.is("plot of the last", x.swan(5, 1), 1);
        DUE.is("weight of the last", x.swan(5, 2), 9);
        Due.feed(x, "r09,09;b08,00,09;");
        DUE.is("two figures", x.river(), 1);
        DUE.is("lawns", x.count(1), 9);
        DUE.is("swans", x.count(2), 1);
        DUE.is("crumbs", x.count(4), 81);
        DUE.is("lawn", x.swan(0, 0), 8);
        DUE.is("plot", x.swan(0, 1), 0);
        Due.feed(x, "r3,9;p0,0,1;");
        x.river();
        DUE.is("crumbs of fewer lawns", x.count(4), 27);
    }

    private static void whatStays() {
        SwanDeeds x = Due.told("r3,1;o2,1,4;");
        Due.fill(x, 2, 1, 1);
        x.weir(0, 1);
        x.days(2);
        x.image(1);
        Due.feed(x, "r4,2;p3,3,3;p");
        DUE.is("a fault", x.river(), -1000113);
        DUE.is("lawns stay", x.count(1), 3);
        DUE.is("DAY stays", x.count(3), 2);
        DUE.is("ACTS stay", x.count(6), 3);
        DUE.is("swans stay", x.swan(0, 2), 4);
        Due.tell(x, "r4,2;p3,3,3;");
        DUE.is("the fault stays told", x.fault(), 1);
        DUE.is("lawns", x.count(1), 4);
        DUE.is("DAY", x.count(3), 0);
        DUE.is("crumbs", x.count(4), 8);
        DUE.is("weirs", x.count(5), 0);
        DUE.is("acts", x.count(6), 0);
        DUE.is("undo", x.undo(), SwanDeeds.STATE);
        DUE.is("rows stay", x.count(0), 1);
        DUE.is("images stay", x.restore(1), 1);
        DUE.is("lawns of the image", x.count(1), 3);
        x.weir(0, 0);
        x.weir(1, 1);
        x.days(3);
        x.ahead(0, 9);
        Due.tell(x, "r3,0;p0,0,1;");
        DUE.is("DAY after what was foretold", x.count(3), 0);
        DUE.is("weirs after what was foretold", x.count(5), 0);
        Due.feed(x, "r3,9;p9,0,1;");
        x.river();
        DUE.is("the latest fault", x.fault(), 2);
    }
}
