import java.util.ArrayList;
import java.util.EnumMap;
import java.util.List;
import java.util.Map;
import java.util.function.Supplier;

/**
 * All that can be asked of an object, part by part. Looking spoils an object: what it kept is taken out to be seen. So
 * each part is seen on an object of its own, that has come as far.
 */
final class Look {
    enum Part { STATUS, FAULT, TRACE, RIVER, ACTS, IMAGES, TAPE, ROWS }

    private final Map<Part, List<Long>> seen = new EnumMap<>(Part.class);
    private final Supplier<SwanDeeds> again;
    private SwanDeeds x;
    private int calls;
    private int mostCalls;

    private Look(Supplier<SwanDeeds> again) {
        this.again = again;
        for (Part part : Part.values()) {
            seen.put(part, new ArrayList<>());
        }
    }

    static Look at(Supplier<SwanDeeds> again) {
        Look look = new Look(again);
        look.seeStatus();
        look.seeFault();
        look.seeTrace();
        look.anotherObject();
        look.seeRiver(Part.RIVER);
        look.seeActs();
        look.seeImage(0);
        look.seeImage(1);
        look.seeTape();
        for (int row = 0; row < 8; row++) {
            look.seeRow(row);
        }
        return look;
    }

    List<Long> of(Part part) {
        return seen.get(part);
    }

    /** The most that were made on one object. */
    int calls() {
        return mostCalls;
    }

    private void anotherObject() {
        x = again.get();
        calls = 0;
    }

    private long see(Part part, long answer) {
        calls++;
        mostCalls = Math.max(mostCalls, calls);
        seen.get(part).add(answer);
        return answer;
    }

    private void seeStatus() {
        anotherObject();
        see(Part.STATUS, x.status());
    }

    private void seeFault() {
        anotherObject();
        see(Part.FAULT, x.fault());
    }

    private void seeTrace() {
        anotherObject();
        for (int i = -1; i <= 16; i++) {
            see(Part.TRACE, x.trace(i));
        }
    }

    private void seeRiver(Part part) {
        long lawns = see(part, x.count(1));
        long swans = see(part, x.count(2));
        see(part, x.count(4));
        for (int swan = 0; swan < swans; swan++) {
            see(part, x.kind(swan));
            see(part, x.swan(swan, 1));
        }
        for (int lawn = 0; lawn < lawns; lawn++) {
            see(part, x.lawn(lawn, 2));
        }
        seeChanges(part);
    }

    /** What an act can have changed. */
    private void seeChanges(Part part) {
        long lawns = see(part, x.count(1));
        long swans = see(part, x.count(2));
        see(part, x.count(3));
        see(part, x.count(5));
        for (int swan = 0; swan < swans; swan++) {
            see(part, x.swan(swan, 0));
            see(part, x.swan(swan, 2));
        }
        for (int lawn = 0; lawn < lawns; lawn++) {
            see(part, x.lawn(lawn, 0));
        }
    }

    private void seeActs() {
        anotherObject();
        long acts = see(Part.ACTS, x.count(6));
        for (int act = 0; act < acts; act++) {
            see(Part.ACTS, x.undo());
            seeChanges(Part.ACTS);
        }
    }

    private void seeImage(int k) {
        anotherObject();
        if (see(Part.IMAGES, x.restore(k)) == 1) {
            seeRiver(Part.IMAGES);
        }
    }

    /** A tape that holds "r2,3;p1," comes to a river by what is fed here, any other one to its fault. */
    private void seeTape() {
        anotherObject();
        see(Part.TAPE, x.count(7));
        for (char letter : "0,7;".toCharArray()) {
            see(Part.TAPE, x.feed(letter));
        }
        if (see(Part.TAPE, x.river()) > 0) {
            seeRiver(Part.TAPE);
        } else {
            see(Part.TAPE, x.fault());
        }
    }

    /** What the tape came to is no part of the rows. */
    private void emptyTape() {
        calls++;
        x.river();
    }

    /**
     * An item is seen by where an old one would have begun to be there a day on, a lane by what it makes of a number, or,
     * where there is no item, by the rows from which a copy can come.
     */
    private void seeRow(int row) {
        anotherObject();
        see(Part.ROWS, x.count(0));
        emptyTape();
        for (char letter : "r9,0;o8,0,1;".toCharArray()) {
            see(Part.ROWS, x.feed(letter));
        }
        see(Part.ROWS, x.river());
        int items = 0;
        while (items < 40 && see(Part.ROWS, x.who(0, 1, 0, row, items, 1)) >= 0) {
            items++;
        }
        see(Part.ROWS, items > 0 ? x.set(row, 0, 70000) : 0);
        for (int lane = 0; lane < 3 && items == 0; lane++) {
            see(Part.ROWS, x.row((row + 1) % 8, lane, 0));
            see(Part.ROWS, x.copy((row + 1) % 8, 0, row, 0, 0));
        }
        see(Part.ROWS, x.drop(row));
    }
}
