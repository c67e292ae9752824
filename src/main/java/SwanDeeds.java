/** Who owns which plot on a river of lawns, by where the swans are that bear the deeds. */
public final class SwanDeeds {
    public static final int NONE = -1000000, BAD = -1000001, STATE = -1000002, FULL = -1000003;

    private static final int FOUND = -1000010, FAULTY = -1000100;
    private static final int NULL = 1, PLACE = 2, KIND = 3, SIZE = 4, STORE = 5;

    private static final int ROWS = 8, LANES = 3, MOST_ITEMS = 40, MISSING = -1;
    private static final int MOST_BYTES = 100, MOST_ACTS = 24, MOST_DAYS = 24, IMAGES = 2, MOST_TRACE = 16;
    private static final int LEAST_LAWNS = 2, MOST_LAWNS = 9, MOST_SWANS = 6, MOST_WEIGHT = 9;
    private static final int MOST_CRUMBS = 99, MOST_THROWN = 9, MOST_AT_FIRST = 9, CRUST = 9, LAST_DAY = 999;
    private static final int FAR = 60, NEAR = 20, TOLD = 12;
    private static final int TENTHS = 10, FACTOR = 16807, PRIME = 2147483647, MOST_SEED = 999999;

    private static final int PEN = 1, COB = 2, CYGNET = 3, OLD = 4, BLACK = 5, KINDS = 6;
    /** Of each kind the next wider one; the widest is its own. */
    private static final int[] WIDER = {0, 0, 1, 1, 0, 4};

    private final Rows rows = new Rows();
    private final Tape tape = new Tape();
    private final Acts acts = new Acts();
    private final Asks asks = new Asks();
    private final River now = new River();
    /** What is foretold happens on this one, so that nothing becomes another. */
    private final River trial = new River();
    private final River dawn = new River();
    private final River[] images = {new River(), new River()};
    private int status;

    public SwanDeeds() {
    }

    // ---- rows

    public int row(int row, int lane, int n) {
        if (!within(row, 0, ROWS - 1) || !within(lane, 0, LANES - 1) || n > MOST_ITEMS) {
            return BAD;
        }
        if (n < 0) {
            return found(SIZE);
        }
        status = 0;
        rows.make(row, lane, n);
        return n;
    }

    public int set(int row, int i, int v) {
        if (!within(row, 0, ROWS - 1)) {
            return BAD;
        }
        int finding = rows.findingAt(row, i, 1);
        if (finding != 0) {
            return found(finding);
        }
        status = 0;
        return rows.put(row, i, v);
    }

    public int copy(int a, int i, int b, int j, int n) {
        if (!within(a, 0, ROWS - 1) || !within(b, 0, ROWS - 1)) {
            return BAD;
        }
        if (rows.isMissing(a) || rows.isMissing(b)) {
            return found(NULL);
        }
        if (rows.laneOf(a) != rows.laneOf(b)) {
            return found(STORE);
        }
        if (!rows.holds(a, i, n) || !rows.holds(b, j, n)) {
            return found(PLACE);
        }
        status = 0;
        rows.carry(a, i, b, j, n);
        return n;
    }

    public int drop(int row) {
        if (!within(row, 0, ROWS - 1)) {
            return BAD;
        }
        if (rows.isMissing(row)) {
            return found(NULL);
        }
        status = 0;
        return rows.remove(row);
    }

    // ---- what is told

    public int feed(int letter) {
        if (!within(letter, 0, 255)) {
            return BAD;
        }
        return tape.take(letter) ? tape.length : FULL;
    }

    public int river() {
        boolean sound = tape.readInto(trial);
        tape.length = 0;
        if (!sound) {
            return FAULTY - tape.faultPlace;
        }
        now.become(trial);
        acts.forget();
        return now.swanCount;
    }

    public int fault() {
        return tape.faultNumber;
    }

    public int undo() {
        return acts.takeBack(now) ? acts.size : STATE;
    }

    // ---- what is done

    public int days(int n) {
        if (!hasRiver()) {
            return STATE;
        }
        if (!within(n, 1, MOST_DAYS)) {
            return BAD;
        }
        if (now.day + n > LAST_DAY) {
            return FULL;
        }
        for (int day = 0; day < n; day++) {
            acts.keep(now);
            now.passDay();
        }
        return now.ownerCount();
    }

    public int bread(int lawn, int n) {
        if (!isLawn(lawn) || !within(n, 1, MOST_THROWN)) {
            return BAD;
        }
        acts.keep(now);
        now.scatter(lawn, n);
        return now.crumbs[lawn];
    }

    public int weir(int lawn, int on) {
        if (!isLawn(lawn) || !isLawn(lawn + 1) || !within(on, 0, 1)) {
            return BAD;
        }
        if (now.weirBehind(lawn) == on) {
            return STATE;
        }
        acts.keep(now);
        now.weirBits ^= 1 << lawn;
        return now.weirBits;
    }

    public int frighten(int swan, int up) {
        if (!isSwan(swan) || !within(up, 0, 1)) {
            return BAD;
        }
        int lawn = now.beside(now.places[swan], up == 1 ? 1 : -1);
        if (lawn == now.places[swan]) {
            return STATE;
        }
        acts.keep(now);
        now.places[swan] = lawn;
        return lawn;
    }

    public int weight(int swan, int n) {
        if (!isSwan(swan) || !within(n, 1, MOST_WEIGHT)) {
            return BAD;
        }
        acts.keep(now);
        int was = now.weights[swan];
        now.weights[swan] = n;
        return was;
    }

    public int swan(int swan, int what) {
        if (!isSwan(swan)) {
            return BAD;
        }
        switch (what) {
            case 0: return now.places[swan];
            case 1: return now.plots[swan];
            case 2: return now.weights[swan];
            case 3: return now.goalOf(swan);
            default: return BAD;
        }
    }

    public int lawn(int lawn, int what) {
        if (!isLawn(lawn)) {
            return BAD;
        }
        switch (what) {
            case 0: return now.crumbs[lawn];
            case 1: return now.weirBehind(lawn);
            case 2: return now.swansOn(lawn);
            case 3: return now.plotsOwnedAt(lawn);
            default: return BAD;
        }
    }

    // ---- foretold

    public int ahead(int swan, int n) {
        if (!isSwan(swan) || !within(n, 0, FAR)) {
            return BAD;
        }
        foretell(n);
        return trial.places[swan];
    }

    public int owns(int family, int n) {
        if (!isLawn(family) || !within(n, 0, FAR)) {
            return BAD;
        }
        foretell(n);
        return trial.plotsOwnedAt(family);
    }

    public int nobody(int n) {
        if (!hasRiver()) {
            return STATE;
        }
        if (!within(n, 0, FAR)) {
            return BAD;
        }
        foretell(n);
        return trial.emptyLawns();
    }

    public int moves(int swan) {
        if (!isSwan(swan)) {
            return BAD;
        }
        trial.become(now);
        int days = trial.daysHeld(swan);
        return days < FAR ? days + 1 : NONE;
    }

    public int evening() {
        if (!hasRiver()) {
            return STATE;
        }
        trial.become(now);
        for (int day = 0; day <= FAR; day++) {
            if (trial.ownerCount() == 1) {
                return day;
            }
            trial.passDay();
        }
        return NONE;
    }

    public int stays(int swan, int lawn, int n) {
        if (!isSwan(swan) || !isLawn(lawn) || !within(n, 1, FAR)) {
            return BAD;
        }
        trial.become(now);
        int times = 0;
        for (int day = 0; day < n; day++) {
            trial.passDay();
            if (trial.places[swan] == lawn) {
                times++;
            }
        }
        return times;
    }

    public int crusts(int swan, int lawn, int n, int what) {
        if (!isSwan(swan) || !isLawn(lawn) || !within(n, 1, NEAR) || !within(what, 0, 1)) {
            return BAD;
        }
        return sizeOrSet(fewest(false, swan, lawn, n), what);
    }

    public int weirs(int swan, int lawn, int n, int what) {
        if (!isSwan(swan) || !isLawn(lawn) || !within(n, 1, NEAR) || !within(what, 0, 1)) {
            return BAD;
        }
        return sizeOrSet(fewest(true, swan, lawn, n), what);
    }

    public int hold(int swan, int what) {
        if (!isSwan(swan) || !within(what, 0, 1)) {
            return BAD;
        }
        int best = 0;
        int longest = -1;
        for (int lawn = 0; lawn < now.lawnCount; lawn++) {
            trial.become(now);
            trial.scatter(lawn, CRUST);
            int days = trial.daysHeld(swan);
            if (days > longest) {
                longest = days;
                best = lawn;
            }
        }
        return what == 0 ? best : longest;
    }

    public int meet(int swan, int other) {
        if (!isSwan(swan) || !isSwan(other) || swan == other) {
            return BAD;
        }
        trial.become(now);
        for (int day = 0; day <= FAR; day++) {
            if (trial.places[swan] == trial.places[other]) {
                return day;
            }
            trial.passDay();
        }
        return NONE;
    }

    public int fights(int n) {
        if (!hasRiver()) {
            return STATE;
        }
        if (!within(n, 1, FAR)) {
            return BAD;
        }
        foretell(n);
        return trial.defeats;
    }

    public int doubles(int what) {
        if (!hasRiver()) {
            return STATE;
        }
        if (!within(what, 0, 1)) {
            return BAD;
        }
        int pairs = 0;
        int first = NONE;
        for (int swan = 0; swan < now.swanCount; swan++) {
            for (int other = swan + 1; other < now.swanCount; other++) {
                if (now.plots[swan] == now.plots[other]) {
                    pairs++;
                    first = first == NONE ? 10 * swan + other : first;
                }
            }
        }
        return what == 0 ? pairs : first;
    }

    public int who(int swan, int which, int other, int row, int i, int n) {
        if (!isSwan(swan) || !within(which, 0, 2) || !isSwan(other)) {
            return BAD;
        }
        if (!within(row, 0, ROWS - 1) || !within(n, 1, TOLD)) {
            return BAD;
        }
        int finding = rows.findingAt(row, i, n);
        if (finding != 0) {
            return found(finding);
        }
        status = 0;
        int least = which == 1 ? 0 : 1;
        int most = which == 0 ? KINDS - 1 : which == 1 ? now.lawnCount - 1 : MOST_WEIGHT;
        int fitting = 0;
        for (int guess = least; guess <= most; guess++) {
            suppose(swan, which, guess);
            if (trialFits(other, row, i, n)) {
                fitting |= 1 << guess;
            }
        }
        return fitting;
    }

    public int which(int row, int i, int n) {
        if (!hasRiver()) {
            return STATE;
        }
        if (!within(row, 0, ROWS - 1) || !within(n, 1, TOLD)) {
            return BAD;
        }
        int finding = rows.findingAt(row, i, n);
        if (finding != 0) {
            return found(finding);
        }
        status = 0;
        int fitting = 0;
        for (int swan = 0; swan < now.swanCount; swan++) {
            trial.become(now);
            if (trialFits(swan, row, i, n)) {
                fitting |= 1 << swan;
            }
        }
        return fitting;
    }

    public int hungry(int n) {
        if (!hasRiver()) {
            return STATE;
        }
        if (!within(n, 1, FAR)) {
            return BAD;
        }
        foretell(n);
        return (1 << trial.swanCount) - 1 & ~trial.eaters;
    }

    public long sink(int swan, int lawn, int p, int what) {
        if (!isSwan(swan) || !isLawn(lawn) || !within(p, 0, TENTHS) || !within(what, 0, 1)) {
            return BAD;
        }
        long cases = 0;
        for (int sunk = 0; sunk < 1 << now.lawnCount; sunk++) {
            if (comesBySinking(sunk, swan, lawn)) {
                cases += casesOf(sunk, p);
            }
        }
        long all = power(TENTHS, Integer.bitCount(now.breadLawns()));
        long shared = Math.max(1, sharedDivisor(cases, all));
        return what == 0 ? cases / shared : all / shared;
    }

    public int drawn(int n, int seed, int what) {
        if (!hasRiver()) {
            return STATE;
        }
        if (!within(n, 0, FAR) || !within(seed, 1, MOST_SEED) || !within(what, 0, 1)) {
            return BAD;
        }
        trial.become(now);
        long x = seed;
        int moved = 0;
        for (int day = 0; day < n; day++) {
            x = x * FACTOR % PRIME;
            trial.scatter((int) (x % now.lawnCount), (int) (x % 4));
            dawn.become(trial);
            trial.passDay();
            moved += trial.countElsewhere(dawn);
        }
        return what == 0 ? trial.ownerCount() : moved;
    }

    public int image(int k) {
        if (!within(k, 0, IMAGES - 1)) {
            return BAD;
        }
        if (!hasRiver()) {
            return STATE;
        }
        images[k].become(now);
        return 1;
    }

    public int restore(int k) {
        if (!within(k, 0, IMAGES - 1)) {
            return BAD;
        }
        if (images[k].lawnCount == 0) {
            return STATE;
        }
        now.become(images[k]);
        acts.forget();
        return 1;
    }

    // ---- asked

    public int kind(int one) {
        return isSwan(one) ? now.kinds[one] : BAD;
    }

    public int as(int one, int kind) {
        if (!isSwan(one) || !within(kind, 0, KINDS - 1)) {
            return BAD;
        }
        if (!isOfKind(now.kinds[one], kind)) {
            return found(KIND);
        }
        status = 0;
        return one;
    }

    /** The body of the kind begins, else that of the nearest wider kind that has one. */
    public int ask(int one, int what) {
        if (!isSwan(one) || !within(what, 0, 1)) {
            return BAD;
        }
        asks.ready(now, one);
        boolean size = what == 0;
        switch (now.kinds[one]) {
            case COB: return size ? asks.sizeOfCob() : asks.markOfCob();
            case CYGNET: return size ? asks.sizeOfPen() : asks.markOfCygnet();
            case OLD: return size ? asks.sizeOfOld() : asks.markOfOld();
            case BLACK: return size ? asks.sizeOfBlack() : asks.markOfOld();
            default: return size ? asks.sizeOfPen() : asks.markOfPen();
        }
    }

    public int trace(int i) {
        return within(i, 0, asks.begun - 1) ? asks.bodies[i] : NONE;
    }

    public int count(int what) {
        switch (what) {
            case 0: return rows.countPresent();
            case 1: return now.lawnCount;
            case 2: return now.swanCount;
            case 3: return now.day;
            case 4: return now.crumbSum();
            case 5: return now.weirBits;
            case 6: return acts.size;
            case 7: return tape.length;
            default: return BAD;
        }
    }

    public int status() {
        return status;
    }

    // ---- within

    private static boolean within(int n, int least, int most) {
        return n >= least && n <= most;
    }

    private int found(int finding) {
        status = finding;
        return FOUND - finding;
    }

    private boolean hasRiver() {
        return now.lawnCount > 0;
    }

    private boolean isSwan(int swan) {
        return within(swan, 0, now.swanCount - 1);
    }

    private boolean isLawn(int lawn) {
        return within(lawn, 0, now.lawnCount - 1);
    }

    private void foretell(int days) {
        trial.become(now);
        trial.passDays(days);
    }

    /** The least of the smallest sets of lawns to throw on, or to build behind. */
    private int fewest(boolean building, int swan, int lawn, int days) {
        int choices = building ? now.lawnCount - 1 : now.lawnCount;
        for (int size = 0; size <= choices; size++) {
            for (int set = 0; set < 1 << choices; set++) {
                if (Integer.bitCount(set) != size) {
                    continue;
                }
                if (building ? comesByWeirs(set, swan, lawn, days) : comesByCrusts(set, swan, lawn, days)) {
                    return set;
                }
            }
        }
        return NONE;
    }

    private static int sizeOrSet(int set, int what) {
        return set == NONE || what == 1 ? set : Integer.bitCount(set);
    }

    private boolean comesByCrusts(int lawns, int swan, int lawn, int days) {
        trial.become(now);
        for (int each = 0; each < now.lawnCount; each++) {
            if ((lawns >> each & 1) == 1) {
                trial.scatter(each, CRUST);
            }
        }
        trial.passDays(days);
        return trial.places[swan] == lawn;
    }

    private boolean comesByWeirs(int built, int swan, int lawn, int days) {
        if ((built & now.weirBits) != 0) {
            return false;
        }
        trial.become(now);
        trial.weirBits |= built;
        trial.passDays(days);
        return trial.places[swan] == lawn;
    }

    private void suppose(int swan, int which, int guess) {
        trial.become(now);
        switch (which) {
            case 0: trial.kinds[swan] = guess; break;
            case 1: trial.places[swan] = guess; break;
            default: trial.weights[swan] = guess; break;
        }
    }

    private boolean trialFits(int swan, int row, int i, int n) {
        for (int day = 0; day < n; day++) {
            trial.passDay();
            if (trial.places[swan] != rows.itemAt(row, i + day)) {
                return false;
            }
        }
        return true;
    }

    private boolean comesBySinking(int sunk, int swan, int lawn) {
        if ((sunk & ~now.breadLawns()) != 0) {
            return false;
        }
        trial.become(now);
        for (int each = 0; each < now.lawnCount; each++) {
            if ((sunk >> each & 1) == 1) {
                trial.crumbs[each] = 0;
            }
        }
        trial.passDay();
        return trial.places[swan] == lawn;
    }

    private long casesOf(int sunk, int p) {
        int sinking = Integer.bitCount(sunk);
        int floating = Integer.bitCount(now.breadLawns()) - sinking;
        return power(p, sinking) * power(TENTHS - p, floating);
    }

    private static long power(long base, int times) {
        long product = 1;
        for (int i = 0; i < times; i++) {
            product *= base;
        }
        return product;
    }

    private static long sharedDivisor(long a, long b) {
        long greater = a;
        long lesser = b;
        // Euclid's steps on longs are fewer than a hundred
        for (int step = 0; step < 100 && lesser != 0; step++) {
            long rest = greater % lesser;
            greater = lesser;
            lesser = rest;
        }
        return greater;
    }

    private static boolean isOfKind(int kind, int wanted) {
        int wider = kind;
        for (int step = 0; step < KINDS; step++) {
            if (wider == wanted) {
                return true;
            }
            wider = WIDER[wider];
        }
        return false;
    }

    /** Lawns in a row, the swans on them, and what a day does to both. */
    private static final class River {
        int lawnCount;
        int swanCount;
        int day;
        int weirBits;
        final int[] crumbs = new int[MOST_LAWNS];
        final int[] kinds = new int[MOST_SWANS];
        final int[] plots = new int[MOST_SWANS];
        final int[] places = new int[MOST_SWANS];
        final int[] weights = new int[MOST_SWANS];
        /** How many cobs were beaten, and which swans ate, since this river became what it is. */
        int defeats;
        int eaters;

        void begin(int lawns, int crumbsEach) {
            lawnCount = lawns;
            swanCount = 0;
            day = 0;
            weirBits = 0;
            for (int lawn = 0; lawn < MOST_LAWNS; lawn++) {
                crumbs[lawn] = lawn < lawns ? crumbsEach : 0;
            }
        }

        void become(River other) {
            lawnCount = other.lawnCount;
            swanCount = other.swanCount;
            day = other.day;
            weirBits = other.weirBits;
            for (int lawn = 0; lawn < MOST_LAWNS; lawn++) {
                crumbs[lawn] = other.crumbs[lawn];
            }
            for (int swan = 0; swan < MOST_SWANS; swan++) {
                kinds[swan] = other.kinds[swan];
                plots[swan] = other.plots[swan];
                places[swan] = other.places[swan];
                weights[swan] = other.weights[swan];
            }
            defeats = 0;
            eaters = 0;
        }

        void scatter(int lawn, int n) {
            crumbs[lawn] = Math.min(MOST_CRUMBS, crumbs[lawn] + n);
        }

        void passDays(int n) {
            for (int i = 0; i < n; i++) {
                passDay();
            }
        }

        void passDay() {
            for (int swan = 0; swan < swanCount; swan++) {
                int lawn = goalOf(swan);
                places[swan] = lawn;
                if (crumbs[lawn] > 0) {
                    crumbs[lawn]--;
                    eaters |= 1 << swan;
                }
            }
            sendBeatenDown();
            day++;
        }

        int goalOf(int swan) {
            int own = places[swan];
            switch (kinds[swan]) {
                case OLD: return crumbs[own] > 0 ? own : beside(own, -1);
                case BLACK: return crumbs[own] > 0 ? own : beside(own, 1);
                case CYGNET: return towardsBread(own, 1, 0);
                case COB: return towardsBread(own, 2, lawnsOfOtherCobs(swan));
                default: return towardsBread(own, 2, 0);
            }
        }

        private int lawnsOfOtherCobs(int swan) {
            int lawns = 0;
            for (int other = 0; other < swanCount; other++) {
                if (other != swan && kinds[other] == COB) {
                    lawns |= 1 << places[other];
                }
            }
            return lawns;
        }

        /** From near to far, and down ahead of up, so that only more crumbs draw away from the first. */
        private int towardsBread(int own, int sight, int shunned) {
            int best = own;
            int most = crumbsSeen(own, shunned);
            int lower = own;
            int upper = own;
            for (int off = 1; off <= sight; off++) {
                // barred, it looks at the same lawn again, which cannot have more than itself
                lower = beside(lower, -1);
                if (crumbsSeen(lower, shunned) > most) {
                    best = lower;
                    most = crumbsSeen(lower, shunned);
                }
                upper = beside(upper, 1);
                if (crumbsSeen(upper, shunned) > most) {
                    best = upper;
                    most = crumbsSeen(upper, shunned);
                }
            }
            return own + Integer.compare(best, own);
        }

        private int crumbsSeen(int lawn, int shunned) {
            return (shunned >> lawn & 1) == 1 ? 0 : crumbs[lawn];
        }

        /** The lawn one step off, or the same one where an end or a weir bars the way. */
        int beside(int lawn, int step) {
            int to = lawn + step;
            if (to < 0 || to >= lawnCount) {
                return lawn;
            }
            int lesser = step < 0 ? to : lawn;
            return (weirBits >> lesser & 1) == 1 ? lawn : to;
        }

        int weirBehind(int lawn) {
            return weirBits >> lawn & 1;
        }

        /** All at once: who is sent down comes to a lawn where the fight is over already. */
        private void sendBeatenDown() {
            int beaten = 0;
            for (int swan = 0; swan < swanCount; swan++) {
                if (kinds[swan] == COB && isBeaten(swan)) {
                    beaten |= 1 << swan;
                }
            }
            for (int swan = 0; swan < swanCount; swan++) {
                if ((beaten >> swan & 1) == 1) {
                    places[swan] = beside(places[swan], -1);
                    defeats++;
                }
            }
        }

        private boolean isBeaten(int cob) {
            for (int other = 0; other < swanCount; other++) {
                if (other != cob && kinds[other] == COB && places[other] == places[cob]) {
                    if (weights[other] > weights[cob]) {
                        return true;
                    }
                    if (weights[other] == weights[cob] && other < cob) {
                        return true;
                    }
                }
            }
            return false;
        }

        /** How many days, far off at most, go by ahead of the first on which it is elsewhere. */
        int daysHeld(int swan) {
            int lawn = places[swan];
            for (int held = 0; held < FAR; held++) {
                passDay();
                if (places[swan] != lawn) {
                    return held;
                }
            }
            return FAR;
        }

        int countElsewhere(River before) {
            int moved = 0;
            for (int swan = 0; swan < swanCount; swan++) {
                if (places[swan] != before.places[swan]) {
                    moved++;
                }
            }
            return moved;
        }

        int swansOn(int lawn) {
            int bits = 0;
            for (int swan = 0; swan < swanCount; swan++) {
                if (places[swan] == lawn) {
                    bits |= 1 << swan;
                }
            }
            return bits;
        }

        int plotsOwnedAt(int lawn) {
            int bits = 0;
            for (int swan = 0; swan < swanCount; swan++) {
                if (places[swan] == lawn) {
                    bits |= 1 << plots[swan];
                }
            }
            return bits;
        }

        int emptyLawns() {
            int bits = (1 << lawnCount) - 1;
            for (int swan = 0; swan < swanCount; swan++) {
                bits &= ~(1 << places[swan]);
            }
            return bits;
        }

        int ownerCount() {
            return lawnCount - Integer.bitCount(emptyLawns());
        }

        int breadLawns() {
            int bits = 0;
            for (int lawn = 0; lawn < lawnCount; lawn++) {
                if (crumbs[lawn] > 0) {
                    bits |= 1 << lawn;
                }
            }
            return bits;
        }

        int crumbSum() {
            int sum = 0;
            for (int lawn = 0; lawn < lawnCount; lawn++) {
                sum += crumbs[lawn];
            }
            return sum;
        }
    }

    /** What the river was ahead of each of the latest acts, in a ring. */
    private static final class Acts {
        private final River[] kept = new River[MOST_ACTS];
        private int next;
        int size;

        Acts() {
            for (int i = 0; i < MOST_ACTS; i++) {
                kept[i] = new River();
            }
        }

        void keep(River river) {
            kept[next].become(river);
            next = next < MOST_ACTS - 1 ? next + 1 : 0;
            size = Math.min(MOST_ACTS, size + 1);
        }

        boolean takeBack(River river) {
            if (size == 0) {
                return false;
            }
            next = next > 0 ? next - 1 : MOST_ACTS - 1;
            size--;
            river.become(kept[next]);
            return true;
        }

        void forget() {
            size = 0;
        }
    }

    /** Rows of numbers, each of a lane; the room of a missing one waits for the next. */
    private static final class Rows {
        private final int[][] items = new int[ROWS][MOST_ITEMS];
        private final int[] lanes = new int[ROWS];
        private final int[] sizes = new int[ROWS];

        Rows() {
            for (int row = 0; row < ROWS; row++) {
                sizes[row] = MISSING;
            }
        }

        boolean isMissing(int row) {
            return sizes[row] == MISSING;
        }

        int laneOf(int row) {
            return lanes[row];
        }

        boolean holds(int row, int i, int n) {
            return n >= 0 && i >= 0 && i <= sizes[row] - n;
        }

        int findingAt(int row, int i, int n) {
            if (isMissing(row)) {
                return NULL;
            }
            return holds(row, i, n) ? 0 : PLACE;
        }

        void make(int row, int lane, int n) {
            lanes[row] = lane;
            sizes[row] = n;
            for (int i = 0; i < MOST_ITEMS; i++) {
                items[row][i] = 0;
            }
        }

        int put(int row, int i, int v) {
            switch (lanes[row]) {
                case 0: items[row][i] = (byte) v; break;
                case 1: items[row][i] = (short) v; break;
                default: items[row][i] = v; break;
            }
            return items[row][i];
        }

        int itemAt(int row, int i) {
            return items[row][i];
        }

        void carry(int a, int i, int b, int j, int n) {
            System.arraycopy(items[a], i, items[b], j, n);
        }

        int remove(int row) {
            int size = sizes[row];
            sizes[row] = MISSING;
            return size;
        }

        int countPresent() {
            int present = 0;
            for (int row = 0; row < ROWS; row++) {
                if (!isMissing(row)) {
                    present++;
                }
            }
            return present;
        }
    }

    /** The bytes that came, and how they are read, token by token, up to the first fault. */
    private static final class Tape {
        private static final int SINGLE = 0, NUMBER = 1, NO_TOKEN = 2;
        private static final int MISPLACED = 1, NOT_AS_TOLD = 2, NO_ROOM = 3, REFUSED = -1;

        private final int[] bytes = new int[MOST_BYTES];
        int length;
        int faultNumber;
        int faultPlace;
        private int at;
        private int start;
        private int sort;
        private int value;

        boolean take(int letter) {
            if (length >= MOST_BYTES) {
                return false;
            }
            bytes[length] = letter;
            length++;
            return true;
        }

        boolean readInto(River river) {
            at = 0;
            if (!readLaw(river)) {
                return false;
            }
            for (int swan = 0; swan <= MOST_SWANS; swan++) {
                if (swan > 0 && at >= length) {
                    return true;
                }
                if (!readSwan(river, swan)) {
                    return false;
                }
            }
            return false;
        }

        private boolean readLaw(River river) {
            if (!readSingle('r')) {
                return false;
            }
            int lawns = readNumber(LEAST_LAWNS, MOST_LAWNS);
            if (lawns == REFUSED || !readSingle(',')) {
                return false;
            }
            int crumbsEach = readNumber(0, MOST_AT_FIRST);
            if (crumbsEach == REFUSED || !readSingle(';')) {
                return false;
            }
            river.begin(lawns, crumbsEach);
            return true;
        }

        private boolean readSwan(River river, int swan) {
            int kind = readSort();
            if (kind == REFUSED) {
                return false;
            }
            if (swan >= MOST_SWANS) {
                return refuse(NO_ROOM);
            }
            int place = readNumber(0, river.lawnCount - 1);
            if (place == REFUSED || !readSingle(',')) {
                return false;
            }
            int plot = readNumber(0, river.lawnCount - 1);
            if (plot == REFUSED || !readSingle(',')) {
                return false;
            }
            int weight = readNumber(1, MOST_WEIGHT);
            if (weight == REFUSED || !readSingle(';')) {
                return false;
            }
            river.kinds[swan] = kind;
            river.places[swan] = place;
            river.plots[swan] = plot;
            river.weights[swan] = weight;
            river.swanCount = swan + 1;
            return true;
        }

        private int readSort() {
            scan();
            int kind = sort == SINGLE ? kindOf(value) : REFUSED;
            if (kind == REFUSED) {
                refuse(MISPLACED);
            }
            return kind;
        }

        private static int kindOf(int letter) {
            switch (letter) {
                case 'p': return PEN;
                case 'c': return COB;
                case 'y': return CYGNET;
                case 'o': return OLD;
                case 'b': return BLACK;
                default: return REFUSED;
            }
        }

        private boolean readSingle(int wanted) {
            scan();
            return sort == SINGLE && value == wanted || refuse(MISPLACED);
        }

        private int readNumber(int least, int most) {
            scan();
            if (sort != NUMBER) {
                refuse(MISPLACED);
                return REFUSED;
            }
            if (!within(value, least, most)) {
                refuse(NOT_AS_TOLD);
                return REFUSED;
            }
            return value;
        }

        private boolean refuse(int number) {
            faultNumber = number;
            faultPlace = start;
            return false;
        }

        /** A byte that is no token at all counts as a single one: it is wanted nowhere. */
        private void scan() {
            start = at;
            sort = NO_TOKEN;
            if (at >= length) {
                return;
            }
            if (isFigure(bytes[at])) {
                scanFigures();
                return;
            }
            sort = SINGLE;
            value = bytes[at];
            at++;
        }

        private void scanFigures() {
            int figures = 0;
            value = 0;
            while (at < length && isFigure(bytes[at])) {
                // more than two are no number: what they would come to is not needed
                value = figures < 2 ? value * 10 + bytes[at] - '0' : value;
                figures++;
                at++;
            }
            sort = figures > 2 ? NO_TOKEN : NUMBER;
        }

        private static boolean isFigure(int letter) {
            return letter >= '0' && letter <= '9';
        }
    }

    /**
     * The bodies of the asks, of one swan. What is asked anew within a body is chosen there,
     * among the kinds that come to it, so that no body can come back to itself.
     */
    private static final class Asks {
        final int[] bodies = new int[MOST_TRACE];
        int begun;
        private int number;
        private int kind;
        private int place;
        private int weight;

        void ready(River river, int swan) {
            begun = 0;
            number = swan;
            kind = river.kinds[swan];
            place = river.places[swan];
            weight = river.weights[swan];
        }

        private void begin(int body) {
            if (begun < MOST_TRACE) {
                bodies[begun] = body;
                begun++;
            }
        }

        private int sizeOfAny() {
            begin(10);
            return weight;
        }

        int sizeOfPen() {
            begin(11);
            int size = sizeOfAny();
            switch (kind) {
                case COB: return size + markOfCob();
                case CYGNET: return size + markOfCygnet();
                default: return size + markOfPen();
            }
        }

        int sizeOfCob() {
            begin(12);
            return -sizeOfPen();
        }

        int sizeOfOld() {
            begin(13);
            return sizeOfAny() - 100;
        }

        int sizeOfBlack() {
            begin(14);
            return 2 * sizeOfOld();
        }

        private int markOfAny() {
            begin(20);
            return number;
        }

        int markOfPen() {
            begin(21);
            return markOfAny() + place;
        }

        int markOfCygnet() {
            begin(22);
            return markOfPen() - 1000;
        }

        int markOfOld() {
            begin(23);
            int mark = markOfAny();
            return mark - (kind == BLACK ? sizeOfBlack() : sizeOfOld());
        }

        int markOfCob() {
            begin(24);
            return 2 * markOfPen();
        }
    }
}
