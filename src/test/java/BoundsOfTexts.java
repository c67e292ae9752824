/** What the document says of texts, a sentence at a time: each byte, each number and each end at which a text has a fault. */
final class BoundsOfTexts {
    private static final Sentences S = Sentences.ALL;
    private static final int BAD = SwanDeeds.BAD, STATE = SwanDeeds.STATE, FULL = SwanDeeds.FULL;
    private static final String SIX = "r2,0;p0,0,1;c0,0,1;y0,0,1;o0,0,1;b0,0,1;p1,1,9;";
    private static final String LONGEST = "r09,09;p08,08,09;c08,08,09;y08,08,09;o08,08,09;b08,08,09;p08,08,09;";

    static void all() {
        tape();
        eachByteAtEachPlace();
        numbersOfTwoFigures();
        swansAtLeastAndAtMost();
        law();
        swans();
        lawnsOfBoth();
        sorts();
        anotherRiver();
        firstToken();
        leastFault();
        misplaced();
        ends();
        notAsTold();
        noRoom();
        feed();
        river();
        fault();
    }

    /** A text that is read on an object that holds all else: its fault is told, and nothing else changes. */
    private static void fault(Run x, String text, int place, int number) {
        x.feed(text).faulty(place, number);
    }

    private static void sound(Run x, String text, int swans) {
        x.feed(text).due("river()", swans);
    }

    private static void tape() {
        String quote = "TEXTS: THE TAPE has at most 100 bytes, that come one by one;";
        Run x = S.terms(quote).tell("r2,1;o1,0,1;");
        for (int n = 1; n <= 100; n++) {
            x.due("feed(" + n % 2 * 255 + ")", n);
        }
        x.due("count(7)", 100).refused("feed(48)", FULL).refused("feed(0)", FULL).refused("feed(255)", FULL)
            .faulty(0, 1).due("count(7)", 0).due("feed(48)", 1);
    }

    /** What "r5,3;p1,1,4;" comes to, if the byte at a place is another. */
    private static int placeDue(int place, int letter) {
        boolean figure = letter >= '0' && letter <= '9';
        boolean sign = place == 2 || place == 4 || place == 7 || place == 9 || place == 11;
        return sign && figure ? place - 1 : place;
    }

    private static int numberDue(int place, int letter) {
        boolean figure = letter >= '0' && letter <= '9';
        return switch (place) {
            case 1, 3, 6, 8, 10 -> figure ? 2 : 1;
            // the figures on both sides become one number, of three figures, or of two
            case 4, 11 -> figure ? 2 : 1;
            default -> 1;
        };
    }

    private static boolean soundDue(int place, int letter) {
        return switch (place) {
            case 0 -> letter == 'r';
            case 1 -> letter >= '2' && letter <= '9';
            case 3 -> letter >= '0' && letter <= '9';
            case 5 -> letter == 'p' || letter == 'c' || letter == 'y' || letter == 'o' || letter == 'b';
            case 6, 8 -> letter >= '0' && letter <= '4';
            case 10 -> letter >= '1' && letter <= '9';
            case 4, 11 -> letter == ';';
            default -> letter == ',';
        };
    }

    private static void eachByteAtEachPlace() {
        String text = "r5,3;p1,1,4;";
        for (int place = 0; place < text.length(); place++) {
            for (int letter = 0; letter < 256; letter++) {
                String other = text.substring(0, place) + (char) letter + text.substring(place + 1);
                Run x = S.terms("TOKENS: letters a to z (each by itself), NUMBERS (figures, 2 at most), SIGNS , and ; nothing else.");
                if (soundDue(place, letter)) {
                    sound(x, other, 1);
                } else {
                    fault(x, other, placeDue(place, letter), numberDue(place, letter));
                }
            }
        }
    }

    private static void numbersOfTwoFigures() {
        String[] around = {"r#,3;p1,1,4;", "r5,#;p1,1,4;", "r5,3;p#,1,4;", "r5,3;p1,#,4;", "r5,3;p1,1,#;"};
        int[] least = {2, 0, 0, 0, 1};
        int[] most = {9, 9, 4, 4, 9};
        for (int k = 0; k < around.length; k++) {
            int place = around[k].indexOf('#');
            for (int n = 0; n < 100; n++) {
                Run x = S.terms("NUMBERS (figures, 2 at most)");
                String text = around[k].replace("#", "" + n / 10 + n % 10);
                if (n >= least[k] && n <= most[k]) {
                    sound(x, text, 1);
                } else {
                    fault(x, text, place, 2);
                }
            }
            for (String three : new String[] {"000", "003", "030", "300", "0003", "3333333333333333333333333333333"}) {
                fault(S.terms("NUMBERS (figures, 2 at most)"), around[k].replace("#", three), place, 1);
            }
        }
        Run x = S.terms("NUMBERS (figures, 2 at most), SIGNS");
        sound(x, "r09,02;b07,08,03;", 1);
        x.due("count(1)", 9).due("count(4)", 18).due("swan(0, 0)", 7).due("swan(0, 1)", 8).due("swan(0, 2)", 3);
        fault(S.terms("letters a to z (each by itself)"), "rr2,0;p0,0,1;", 1, 1);
        fault(S.terms("letters a to z (each by itself)"), "r2,0;pp0,0,1;", 6, 1);
    }

    private static void swansAtLeastAndAtMost() {
        String quote = "river: law swan { swan }.";
        fault(S.terms(quote), "r2,0;", 5, 1);
        fault(S.terms(quote), "p0,0,1;", 0, 1);
        fault(S.terms(quote), "r2,0;p0,0,1;r2,0;p0,0,1;", 12, 1);
        for (int swans = 1; swans <= 6; swans++) {
            Run x = S.terms(quote);
            sound(x, SIX.substring(0, 5 + 7 * swans), swans);
            x.due("count(2)", swans).due("swan(" + (swans - 1) + ", 2)", swans == 6 ? 9 : 1)
                .refused("swan(" + swans + ", 2)", BAD);
        }
        sound(S.terms(quote).settled(), LONGEST, 6);
    }

    private static void law() {
        String quote = "law: r LAWNS , CRUMBS ; (2 to 9: LAWNS 0, 1, ..; 0 to 9: how many lie on each at first).";
        fault(S.terms(quote), "r0,0;p0,0,1;", 1, 2);
        fault(S.terms(quote), "r1,0;p0,0,1;", 1, 2);
        fault(S.terms(quote), "r10,0;p0,0,1;", 1, 2);
        fault(S.terms(quote), "r2,10;p0,0,1;", 3, 2);
        for (int lawns = 2; lawns <= 9; lawns++) {
            Run x = S.terms(quote);
            sound(x, "r" + lawns + ",4;p0,0,1;", 1);
            x.due("count(1)", lawns).due("count(4)", 4 * lawns).due("lawn(0, 0)", 4).due("lawn(" + (lawns - 1) + ", 0)", 4)
                .refused("lawn(" + lawns + ", 0)", BAD).refused("lawn(-1, 0)", BAD);
        }
        for (int crumbs = 0; crumbs <= 9; crumbs++) {
            Run x = S.terms(quote);
            sound(x, "r3," + crumbs + ";p0,0,1;", 1);
            x.breadLies(crumbs, crumbs, crumbs).due("count(4)", 3 * crumbs);
        }
    }

    private static void swans() {
        String quote = "swan: SORT LAWN , PLOT , WEIGHT ;";
        Run x = S.terms(quote);
        sound(x, "r5,0;y4,0,9;o0,4,1;", 2);
        x.due("swan(0, 0)", 4).due("swan(0, 1)", 0).due("swan(0, 2)", 9).due("kind(0)", 3)
            .due("swan(1, 0)", 0).due("swan(1, 1)", 4).due("swan(1, 2)", 1).due("kind(1)", 4);
        for (int weight = 1; weight <= 9; weight++) {
            Run y = S.terms("1 to 9;");
            sound(y, "r2,0;p0,0," + weight + ";", 1);
            y.due("swan(0, 2)", weight);
        }
        fault(S.terms("1 to 9;"), "r2,0;p0,0,0;", 10, 2);
        fault(S.terms("1 to 9;"), "r2,0;p0,0,00;", 10, 2);
        fault(S.terms("1 to 9;"), "r2,0;p0,0,10;", 10, 2);
        Run six = S.terms("SWANS 0 .. 5, 6 at most).");
        sound(six, SIX, 6);
        six.due("count(2)", 6).due("swan(0, 2)", 1).due("swan(5, 2)", 9).refused("swan(6, 2)", BAD);
        fault(S.terms("SWANS 0 .. 5, 6 at most).").settled(), SIX + "p0,0,1;", 47, 3);
    }

    private static void lawnsOfBoth() {
        for (int lawns = 2; lawns <= 9; lawns++) {
            String law = "r" + lawns + ",0;";
            int last = lawns - 1;
            Run x = S.terms("LAWNS both;");
            sound(x, law + "p" + last + ",0,1;p0," + last + ",1;", 2);
            x.places(last, 0).due("swan(1, 1)", last);
            fault(S.terms("LAWNS both;"), law + "p" + lawns + ",0,1;", 6, 2);
            fault(S.terms("LAWNS both;"), law + "p0," + lawns + ",1;", 8, 2);
        }
    }

    private static void sorts() {
        Run x = S.terms("(SORT: p a pen, c a cob, y a cygnet, o an old one, b a black one;");
        sound(x, "r2,0;p0,0,1;c0,0,1;y0,0,1;o0,0,1;b0,0,1;", 5);
        for (int swan = 0; swan < 5; swan++) {
            x.due("kind(" + swan + ")", swan + 1);
        }
    }

    private static void anotherRiver() {
        Run x = S.terms("A RIVER that is read stands in place of the one before (none at first):").refused("evening()", STATE).settled();
        sound(x, "r4,2;p3,3,3;", 1);
        x.due("count(1)", 4).due("count(2)", 1).places(3).breadLies(2, 2, 2, 2).refused("lawn(4, 0)", BAD).refused("swan(1, 0)", BAD);
        Run y = S.terms("DAY 0, no WEIRS;").settled().due("count(3)", 2).due("count(5)", 8);
        sound(y, "r5,1;p2,0,4;", 1);
        y.due("count(3)", 0).due("count(5)", 0).due("lawn(3, 1)", 0);
        Run z = S.terms("no ACT can be undone;").settled().due("count(6)", 5);
        sound(z, "r5,1;p2,0,4;", 1);
        z.due("count(6)", 0).refused("undo()", STATE);
        Run w = S.terms("IMAGES and ROWS stay.").settled();
        sound(w, "r2,0;p0,0,4;", 1);
        w.due("count(0)", 5).holds(0, 1, 2, 3, 4).holds(1, 5, 6, 7).holds(7, 4, 4)
            .due("restore(0)", 1).due("count(1)", 5).due("restore(1)", 1).due("count(1)", 4);
    }

    private static void firstToken() {
        String quote = "FAULTS, the first TOKEN that has one (its first byte),";
        fault(S.terms(quote).settled(), "r1,99;q", 1, 2);
        fault(S.terms(quote).settled(), "r5,10;p9", 3, 2);
        fault(S.terms(quote), "r5,0;p05,05,00;", 6, 2);
        fault(S.terms(quote), "r5,0;p04,05,00;", 9, 2);
        fault(S.terms(quote), "r5,0;p04,04,00", 12, 2);
        fault(S.terms(quote), "r5,0;p04,04,09", 14, 1);
        fault(S.terms(quote), "r5,0;p0,0,1;c", 13, 1);
        fault(S.terms(quote), "r5,0;p0,0,1;c5", 13, 2);
        fault(S.terms(quote), "r5,0;p0,0,1;c444", 13, 1);
    }

    private static void leastFault() {
        String quote = "of one TOKEN the least:";
        fault(S.terms(quote), "99", 0, 1);
        fault(S.terms(quote), "r5,0;99", 5, 1);
        fault(S.terms(quote), "r100,0;p0,0,1;", 1, 1);
        fault(S.terms(quote), SIX + "q0,0,1;", 47, 1);
        fault(S.terms(quote), SIX + "99", 47, 1);
        fault(S.terms(quote), SIX + "r2,0;", 47, 1);
        fault(S.terms(quote), SIX + ";", 47, 1);
        fault(S.terms(quote), SIX + (char) 255, 47, 1);
    }

    private static void misplaced() {
        String quote = "1 it cannot stand there, or is none (a run of three figures or more, at its first;";
        fault(S.terms(quote).settled(), "x", 0, 1);
        fault(S.terms(quote), "r;", 1, 1);
        fault(S.terms(quote), "r5;", 2, 1);
        fault(S.terms(quote), "r5,,", 3, 1);
        fault(S.terms(quote), "r5,0,", 4, 1);
        fault(S.terms(quote), "r5,0;p,", 6, 1);
        fault(S.terms(quote), "r5,0;p0;", 7, 1);
        fault(S.terms(quote), "r5,0;p0,;", 8, 1);
        fault(S.terms(quote), "r5,0;p0,0;", 9, 1);
        fault(S.terms(quote), "r5,0;p0,0,p", 10, 1);
        fault(S.terms(quote), "r5,0;p0,0,1,", 11, 1);
        fault(S.terms(quote), "r5,0;p0,0,1;,", 12, 1);
        fault(S.terms(quote), "r5,0;p0,0,111;", 10, 1);
        fault(S.terms(quote), "r5,0;p0,0,11111;", 10, 1);
        fault(S.terms(quote), "r" + "0".repeat(99), 1, 1);
        fault(S.terms(quote), "0".repeat(100), 0, 1);
        fault(S.terms(quote), LONGEST + "p" + "1".repeat(32), 67, 3);
        fault(S.terms(quote), "r5,0;p0,0,1;P0,0,1;", 12, 1);
        fault(S.terms(quote), "r5,0;p0,0,1; ", 12, 1);
        fault(S.terms(quote), "r5,0;p0,0,1;" + (char) 0, 12, 1);
    }

    /** A text that ends at each of its places: behind a swan it is whole. */
    private static void ends() {
        String quote = "the end: how many bytes there are);";
        fault(S.terms(quote).settled(), "", 0, 1);
        for (int length = 0; length < SIX.length(); length++) {
            String text = SIX.substring(0, length);
            if (length >= 12 && length % 7 == 5) {
                sound(S.terms(quote), text, (length - 5) / 7);
            } else {
                fault(S.terms(quote), text, length, 1);
            }
        }
        for (int length = 0; length < LONGEST.length(); length++) {
            String text = LONGEST.substring(0, length);
            if (length >= 17 && length % 10 == 7) {
                sound(S.terms(quote), text, (length - 7) / 10);
            } else if (length == 2 || length >= 15 && length % 10 == 5) {
                // of LAWNS, or of a WEIGHT, only the first figure is there: a 0, which is not as told
                fault(S.terms(quote), text, length - 1, 2);
            } else {
                fault(S.terms(quote), text, length, 1);
            }
        }
    }

    private static void notAsTold() {
        String quote = "2 a NUMBER that is not as told;";
        fault(S.terms(quote).settled(), "r1", 1, 2);
        fault(S.terms(quote).settled(), "r10", 1, 2);
        fault(S.terms(quote).settled(), "r9,10", 3, 2);
        fault(S.terms(quote).settled(), "r9,9;p9", 6, 2);
        fault(S.terms(quote).settled(), "r9,9;p8,9", 8, 2);
        fault(S.terms(quote).settled(), "r9,9;p8,8,0", 10, 2);
        fault(S.terms(quote).settled(), "r9,9;p8,8,10", 10, 2);
        fault(S.terms(quote).settled(), "r9,9;p8,8,9;c8,8,99", 17, 2);
    }

    private static void noRoom() {
        for (String sort : new String[] {"p", "c", "y", "o", "b"}) {
            fault(S.terms("3 a swan more than there is room for (its letter)."), SIX + sort, 47, 3);
            fault(S.terms("3 a swan more than there is room for (its letter)."), LONGEST + sort + "99;r", 67, 3);
            sound(S.terms("3 a swan more than there is room for (its letter)."), SIX.substring(0, 40) + sort + "0,0,1;", 6);
        }
    }

    private static void feed() {
        S.promise(6, "A byte (0 to 255) comes behind the tape: how many it has.").settled()
            .due("feed(0)", 1).due("feed(255)", 2).due("feed(114)", 3).due("count(7)", 3).faulty(0, 1).due("feed(0)", 1);
        Run x = S.promise(6, "A byte (0 to 255) comes behind the tape: how many it has.");
        int n = 0;
        for (char letter : "r2,1;o1,0,1;".toCharArray()) {
            n++;
            x.due("feed(" + (int) letter + ")", n);
        }
        x.due("river()", 1).due("count(4)", 2);
        S.promise(6, "BAD;").rich().bounded("feed", Run.to(0, 255));
        S.promise(6, "BAD;").full().refused("feed(-1)", BAD).refused("feed(256)", BAD);
        S.promise(6, "FULL.").full().refused("feed(0)", FULL).refused("feed(255)", FULL).refused("feed(114)", FULL);
    }

    private static void river() {
        Run x = S.promise(7, "The tape, empty then, is read: how many SWANS there are.").settled();
        sound(x, SIX, 6);
        x.due("count(7)", 0).due("count(2)", 6).faulty(0, 1);
        sound(x, "r2,0;p0,0,1;", 1);
        x.due("count(7)", 0).due("count(2)", 1);
        fault(S.promise(7, "-1000100 less the place of a FAULT: all but the tape, and what fault() tells, stays.").settled(), "q", 0, 1);
        fault(S.promise(7, "-1000100 less the place of a FAULT: all but the tape, and what fault() tells, stays.").settled(), SIX + "c", 47, 3);
        fault(S.promise(7, "-1000100 less the place of a FAULT: all but the tape, and what fault() tells, stays.").settled(), "r2,3;p1,0,7;c1,0,0;", 17, 2);
        S.promise(7, "-1000100 less the place of a FAULT: all but the tape, and what fault() tells, stays.").riverless()
            .faulty(8, 1).due("count(1)", 0).refused("days(1)", STATE);
        S.promise(7, "-1000100 less the place of a FAULT: all but the tape, and what fault() tells, stays.").full()
            .faulty(1, 1).due("count(6)", 24).due("count(3)", 999);
    }

    private static void fault() {
        S.promise(8, "The number of the latest FAULT;").settled().due("fault()", 2)
            .feed("x").faulty(0, 1).due("fault()", 1)
            .feed("r2,0;p0,0,1;").due("river()", 1).due("fault()", 1)
            .feed(SIX + "p").faulty(47, 3).due("fault()", 3)
            .feed("r2,0;p0,0,0;").faulty(10, 2).due("fault()", 2).feed("r").due("fault()", 2);
        Run x = S.promise(8, "0 before one.").due("fault()", 0).refused("feed(256)", BAD).refused("undo()", STATE).due("fault()", 0);
        sound(x, SIX, 6);
        x.due("fault()", 0);
    }
}
