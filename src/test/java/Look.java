import java.util.ArrayList;
import java.util.EnumMap;
import java.util.List;
import java.util.Map;

/** All that can be asked of an object, part by part. Looking spoils the object: what it kept is taken out to be seen. */
final class Look {
    enum Part { STATUS, FAULT, TRACE, RIVER, ACTS, IMAGES, TAPE, ROWS }

    private static final int STATE = SwanDeeds.STATE;

    private final SwanDeeds x;
    private final Map<Part, List<Long>> seen = new EnumMap<>(Part.class);
    private int calls;

    private Look(SwanDeeds x) {
        this.x = x;
        for (Part part : Part.values()) {
            seen.put(part, new ArrayList<>());
        }
    }

    static Look at(SwanDeeds x) {
        Look look = new Look(x);
        look.see(Part.STATUS, x.status());
        look.see(Part.FAULT, x.fault());
        for (int i = -1; i <= 16; i++) {
            look.see(Part.TRACE, x.trace(i));
        }
        look.seeRiver(Part.RIVER);
        look.seeActs();
        look.seeImages();
        look.seeTape();
        look.seeRows();
        return look;
    }

    List<Long> of(Part part) {
        return seen.get(part);
    }

    int calls() {
        return calls;
    }

    private long see(Part part, long answer) {
        calls++;
        seen.get(part).add(answer);
        return answer;
    }

    private void seeRiver(Part part) {
        for (int what = 1; what <= 5; what++) {
            see(part, x.count(what));
        }
        for (int swan = 0; see(part, x.kind(swan)) != SwanDeeds.BAD; swan++) {
            for (int what = 0; what <= 3; what++) {
                see(part, x.swan(swan, what));
            }
        }
        for (int lawn = 0; see(part, x.lawn(lawn, 0)) != SwanDeeds.BAD; lawn++) {
            see(part, x.lawn(lawn, 2));
        }
    }

    /** What an act can have changed. */
    private void seeChanges(Part part) {
        see(part, x.count(3));
        see(part, x.count(5));
        for (int swan = 0; see(part, x.swan(swan, 0)) != SwanDeeds.BAD; swan++) {
            see(part, x.swan(swan, 2));
        }
        long lawns = see(part, x.count(1));
        for (int lawn = 0; lawn < lawns; lawn++) {
            see(part, x.lawn(lawn, 0));
        }
    }

    private void seeActs() {
        see(Part.ACTS, x.count(6));
        while (see(Part.ACTS, x.undo()) != STATE) {
            seeChanges(Part.ACTS);
        }
    }

    private void seeImages() {
        for (int k = 0; k < 2; k++) {
            if (see(Part.IMAGES, x.restore(k)) == 1) {
                seeRiver(Part.IMAGES);
            }
        }
    }

    /** A tape that holds "r2,3;p1," comes to a river by what is fed here, any other one to its fault. */
    private void seeTape() {
        see(Part.TAPE, x.count(7));
        for (char letter : "0,7;".toCharArray()) {
            see(Part.TAPE, x.feed(letter));
        }
        if (see(Part.TAPE, x.river()) > 0) {
            seeRiver(Part.TAPE);
        } else {
            see(Part.TAPE, x.fault());
        }
    }

    /** An item is seen by where an old one would have begun to be there a day on, a lane by what it makes of a number. */
    private void seeRows() {
        see(Part.ROWS, x.count(0));
        for (char letter : "r9,0;o8,0,1;".toCharArray()) {
            see(Part.ROWS, x.feed(letter));
        }
        see(Part.ROWS, x.river());
        for (int row = 0; row < 8; row++) {
            int i = 0;
            while (see(Part.ROWS, x.who(0, 1, 0, row, i, 1)) >= 0) {
                i++;
            }
        }
        for (int row = 1; row < 8; row++) {
            see(Part.ROWS, x.copy(row, 0, row - 1, 0, 0));
        }
        for (int row = 0; row < 8; row++) {
            see(Part.ROWS, x.set(row, 0, 70000));
            see(Part.ROWS, x.drop(row));
        }
    }
}
