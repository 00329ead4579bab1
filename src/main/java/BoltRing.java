/**
 * Bolts drawn up round a flange with a pad under it: exact pulls, presses and lifts, drawing by
 * rows, cases of loads, misses by a turn, readings, and orders told in a text.
 */
public final class BoltRing {
    public static final int NONE = -1, UNKNOWN = -100001, OUTSIDE = -100002, NOT = -100003, FULL = -100004, LARGE = -100005;

    private static final int FEWEST_BOLTS = 3;
    private static final int MOST_BOLTS = 6;
    private static final int FIRST_BOLTS = 4;
    private static final int FIRST_RIB = 2;
    private static final int MOST_GRADE = 9;
    private static final int MOST_TURNS = 200;
    private static final int MOST_LOAD = 200;
    private static final int MOST_PULL = 900;
    private static final int MOST_READING = 2000;
    private static final int MOST_WEIGHT = 9;

    private static final int STIFFNESS = 0;
    private static final int PAD = 1;
    private static final int TURNS = 2;
    private static final int LOADS = 3;

    private final Joint ring = new Joint();
    private final Lifts lifts = new Lifts();
    private final Drawing drawing = new Drawing();
    private final Cases cases = new Cases();
    private final Misses misses = new Misses();
    private final Readings readings = new Readings();
    private final Orders orders = new Orders();
    private int clausesDone;

    public BoltRing() {
        ring.begin(FIRST_BOLTS, FIRST_RIB);
    }

    // ---- the joint

    public int joint(int n, int rib) {
        if (!within(n, FEWEST_BOLTS, MOST_BOLTS) || !within(rib, 1, MOST_GRADE)) {
            return OUTSIDE;
        }
        ring.begin(n, rib);
        cases.count = 0;
        misses.begin();
        readings.told = 0;
        return n;
    }

    public int set(int k, int what, int v) {
        if (!ring.has(k)) {
            return UNKNOWN;
        }
        if (!within(what, STIFFNESS, LOADS) || !within(v, leastOf(what), mostOf(what))) {
            return OUTSIDE;
        }
        int[] values = ring.valuesOf(what);
        int was = values[k];
        values[k] = v;
        return was;
    }

    public int broken(int k, boolean is) {
        if (!ring.has(k)) {
            return UNKNOWN;
        }
        boolean was = ring.isBroken(k);
        if (is && !was && ring.wholeCount() == 1) {
            return NOT;
        }
        ring.markBroken(k, is);
        return asNumber(was);
    }

    public int told(int k, int what) {
        if (!ring.has(k)) {
            return UNKNOWN;
        }
        switch (what) {
            case STIFFNESS:
            case PAD:
            case TURNS:
            case LOADS:
                return ring.valuesOf(what)[k];
            case 4:
                return asNumber(ring.isBroken(k));
            case 5:
                lifts.settle(ring, ring.loads);
                return asNumber(lifts.pullUpper(ring, k) == 0);
            case 6:
                lifts.settle(ring, ring.loads);
                return asNumber(lifts.pressUpper(ring, k) == 0);
            case 7:
                return ring.placeInRow(k);
            default:
                return OUTSIDE;
        }
    }

    public long force(int k, int force, int what) {
        if (!ring.has(k)) {
            return UNKNOWN;
        }
        if (!within(force, 0, 2) || !within(what, 0, 1)) {
            return OUTSIDE;
        }
        lifts.settle(ring, ring.loads);
        long upper = lifts.upper[k];
        if (force == 0) {
            upper = lifts.pullUpper(ring, k);
        } else if (force == 1) {
            upper = lifts.pressUpper(ring, k);
        }
        return leastTerm(upper, lifts.lower, what);
    }

    public int count(int what) {
        switch (what) {
            case 0:
                return ring.bolts;
            case 1:
                return Integer.bitCount(ring.brokenSet);
            case 2:
                lifts.settle(ring, ring.loads);
                return lifts.slackCount(ring);
            case 3:
                lifts.settle(ring, ring.loads);
                return lifts.openCount(ring);
            case 4:
                return ring.sumOf(ring.turns);
            case 5:
                return cases.count;
            case 6:
                return Integer.bitCount(readings.told);
            case 7:
                return orders.length;
            case 8:
                return clausesDone;
            default:
                return OUTSIDE;
        }
    }

    // ---- drawing

    public int draw(int k, int t) {
        if (!ring.has(k)) {
            return UNKNOWN;
        }
        if (!within(t, 1, MOST_PULL)) {
            return OUTSIDE;
        }
        int drawn = ring.isBroken(k) ? NONE : drawing.drawBolt(ring, k, t);
        return drawn == NONE ? NOT : drawn;
    }

    public int row(int figures) {
        return ring.takeRow(figures) ? 1 : OUTSIDE;
    }

    public int pass(int t) {
        if (!within(t, 1, MOST_PULL)) {
            return OUTSIDE;
        }
        int drawn = drawing.goRound(ring, ring.order, t);
        return drawn == NONE ? NOT : drawn;
    }

    public int passes(int t) {
        if (!within(t, 1, MOST_PULL)) {
            return OUTSIDE;
        }
        drawing.keepTurns(ring);
        int rounds = drawing.goRounds(ring, ring.order, t, Drawing.MOST_PASSES);
        if (rounds == NONE) {
            drawing.putTurnsBack(ring);
            return NOT;
        }
        return rounds;
    }

    public int best(int t, int what) {
        if (!within(t, 1, MOST_PULL) || !within(what, 0, 2)) {
            return OUTSIDE;
        }
        if (ring.bolts == MOST_BOLTS) {
            return LARGE;
        }
        drawing.findBestRow(ring, t);
        if (drawing.bestPasses == NONE) {
            return NOT;
        }
        if (what == 0) {
            return drawing.bestFigures;
        }
        return what == 1 ? drawing.bestPasses : drawing.bestDrawn;
    }

    public int even(int t, int k) {
        if (k != NONE && !ring.has(k)) {
            return UNKNOWN;
        }
        if (!within(t, 1, MOST_PULL)) {
            return OUTSIDE;
        }
        drawing.keepTurns(ring);
        boolean found = drawing.drawEvenFromNothing(ring, t);
        int answer = k == NONE ? ring.sumOf(ring.turns) : ring.turns[k];
        drawing.putTurnsBack(ring);
        return found ? answer : NOT;
    }

    // ---- loads

    public int newCase() {
        return cases.count == Cases.MOST ? FULL : cases.open();
    }

    public int load(int i, int k, int v) {
        if (!cases.has(i) || !ring.has(k)) {
            return UNKNOWN;
        }
        if (!within(v, 0, MOST_LOAD)) {
            return OUTSIDE;
        }
        int[] loads = cases.loads[i];
        int was = loads[k];
        loads[k] = v;
        return was;
    }

    public long leak(int i, int what) {
        if (i != NONE && !cases.has(i)) {
            return UNKNOWN;
        }
        if (!within(what, 0, 2)) {
            return OUTSIDE;
        }
        lifts.settle(ring, cases.loadsOf(i, ring));
        int place = lifts.leakPlace(ring);
        return what == 2 ? place : leastTerm(lifts.pressUpper(ring, place), lifts.lower, what);
    }

    public int worst() {
        return cases.findWorst(ring, lifts);
    }

    public int weakest() {
        return cases.findWeakest(ring, lifts);
    }

    // ---- misses, readings

    public int weights(int a, int b, int c) {
        if (!within(a, 0, MOST_WEIGHT) || !within(b, 0, MOST_WEIGHT) || !within(c, 0, MOST_WEIGHT) || a + b + c == 0) {
            return OUTSIDE;
        }
        misses.weigh(a, b, c);
        return 1;
    }

    public long chance(int low, int high, int what) {
        if (!within(high, 0, MOST_READING) || !within(low, 0, high) || !within(what, 0, 1)) {
            return OUTSIDE;
        }
        long favourable = misses.favourable(ring, lifts, low, high);
        return leastTerm(favourable, misses.all(ring), what);
    }

    public int reading(int k, int low, int high) {
        if (!ring.has(k)) {
            return UNKNOWN;
        }
        if (!within(high, 0, MOST_READING) || !within(low, 0, high)) {
            return OUTSIDE;
        }
        readings.take(k, low, high);
        return Integer.bitCount(readings.told);
    }

    public int forget() {
        int were = Integer.bitCount(readings.told);
        readings.told = 0;
        return were;
    }

    public int fit() {
        return asNumber(readings.agree(ring, lifts));
    }

    public int suspect(int i) {
        return readings.suspectAt(ring, lifts, i);
    }

    // ---- orders

    public int feed(int n, long bytes) {
        if (!within(n, 1, Orders.BYTES_OF_A_LONG)) {
            return OUTSIDE;
        }
        if (orders.length + n > Orders.MOST_BYTES) {
            return FULL;
        }
        orders.append(n, bytes);
        return orders.length;
    }

    public int read() {
        boolean sound = orders.understand(ring.bolts);
        orders.length = 0;
        clausesDone = 0;
        if (!sound) {
            return -10 - orders.flaw;
        }
        for (int clause = 0; clause < orders.clauses && carryOut(clause); clause++) {
            clausesDone++;
        }
        return clausesDone;
    }

    public int fault() {
        return orders.flawAt;
    }

    /** Does one clause of the orders; answers whether it could be done. */
    private boolean carryOut(int clause) {
        int first = orders.firsts[clause];
        int second = orders.seconds[clause];
        switch (orders.kinds[clause]) {
            case Orders.DRAW:
                return !ring.isBroken(first) && drawing.drawBolt(ring, first, second) != NONE;
            case Orders.PASS:
                return drawing.goRound(ring, ring.order, first) != NONE;
            case Orders.LOAD:
                ring.loads[first] = second;
                return true;
            case Orders.BREAK:
                return !ring.isBroken(first) && broken(first, true) != NOT;
            case Orders.MEND:
                return broken(first, false) == 1;
            default:
                return ring.takeRow(first);
        }
    }

    // ---- numbers

    private static boolean within(int v, int low, int high) {
        return v >= low && v <= high;
    }

    private static int asNumber(boolean is) {
        return is ? 1 : 0;
    }

    private static int leastOf(int what) {
        return what == STIFFNESS || what == PAD ? 1 : 0;
    }

    private static int mostOf(int what) {
        if (what == TURNS) {
            return MOST_TURNS;
        }
        return what == LOADS ? MOST_LOAD : MOST_GRADE;
    }

    /** The upper (what = 0) or the lower number of a fraction in least terms. */
    private static long leastTerm(long upper, long lower, int what) {
        long wanted = what == 0 ? upper : lower;
        long common = commonDivisor(Math.abs(upper), lower);
        return common == 0 ? wanted : wanted / common;
    }

    private static long commonDivisor(long a, long b) {
        for (int step = 0; step < 200 && b != 0; step++) {
            long rest = a % b;
            a = b;
            b = rest;
        }
        return a;
    }

    /** The least whole number not below a fraction; 0 for those below it. */
    private static long wholeFrom(long upper, long lower) {
        return upper <= 0 || lower <= 0 ? 0 : (upper + lower - 1) / lower;
    }

    /** Compares two fractions not below 0: by whole parts first, as the products of all could run over. */
    private static int compareFractions(long upper, long lower, long otherUpper, long otherLower) {
        if (lower <= 0 || otherLower <= 0) {
            return 0;
        }
        long whole = upper / lower;
        long otherWhole = otherUpper / otherLower;
        if (whole != otherWhole) {
            return Long.compare(whole, otherWhole);
        }
        return Long.compare(upper % lower * otherLower, otherUpper % otherLower * lower);
    }

    /** The bolts: what they are made of, and how they stand. */
    private static final class Joint {
        int bolts;
        int rib;
        int brokenSet;
        final int[] stiffness = new int[MOST_BOLTS];
        final int[] pads = new int[MOST_BOLTS];
        final int[] turns = new int[MOST_BOLTS];
        final int[] loads = new int[MOST_BOLTS];
        final int[] order = new int[MOST_BOLTS];

        void begin(int bolts, int rib) {
            this.bolts = bolts;
            this.rib = rib;
            brokenSet = 0;
            for (int k = 0; k < MOST_BOLTS; k++) {
                stiffness[k] = 5;
                pads[k] = 3;
                turns[k] = 0;
                loads[k] = 0;
                order[k] = k;
            }
        }

        boolean has(int k) {
            return k >= 0 && k < bolts;
        }

        int allSet() {
            return (1 << bolts) - 1;
        }

        boolean isBroken(int k) {
            return (brokenSet >> k & 1) != 0;
        }

        void markBroken(int k, boolean is) {
            brokenSet = is ? brokenSet | 1 << k : brokenSet & ~(1 << k);
        }

        int wholeCount() {
            return bolts - Integer.bitCount(brokenSet);
        }

        int[] valuesOf(int what) {
            switch (what) {
                case STIFFNESS:
                    return stiffness;
                case PAD:
                    return pads;
                case TURNS:
                    return turns;
                default:
                    return loads;
            }
        }

        int sumOf(int[] values) {
            int sum = 0;
            for (int k = 0; k < bolts; k++) {
                sum += values[k];
            }
            return sum;
        }

        int placeInRow(int k) {
            int place = 0;
            while (place < bolts - 1 && order[place] != k) {
                place++;
            }
            return place;
        }

        /** Takes an order told as a number of as many figures as there are bolts; answers whether it is one. */
        boolean takeRow(int figures) {
            if (!isRow(figures)) {
                return false;
            }
            int rest = figures;
            for (int place = bolts - 1; place >= 0; place--) {
                order[place] = rest % 10;
                rest /= 10;
            }
            return true;
        }

        private boolean isRow(int figures) {
            if (figures < 0) {
                return false;
            }
            int seen = 0;
            int rest = figures;
            for (int place = 0; place < bolts; place++) {
                int figure = rest % 10;
                if (figure >= bolts) {
                    return false;
                }
                seen |= 1 << figure;
                rest /= 10;
            }
            return rest == 0 && seen == allSet();
        }
    }

    /**
     * The lifts of all bolts for one row of loads, as upper numbers over one lower number.
     *
     * Which bolts pull and which pads press is sought so that it surely ends: all bolts pull at
     * first, and those found above their turns are truly slack (lifts only rise by letting them
     * go); for bolts that pull, the pressed pads are sought from above, and lifts only fall.
     */
    private static final class Lifts {
        private static final int MOST_STEPS = 200;

        final long[] upper = new long[MOST_BOLTS];
        long lower = 1;
        private final long[] diagonal = new long[MOST_BOLTS];
        private final long[] side = new long[MOST_BOLTS];
        private final long[] ribPowers = new long[MOST_BOLTS + 1];
        private final long[] arcs = new long[MOST_BOLTS * MOST_BOLTS];

        void settle(Joint ring, int[] loads) {
            settleHolding(ring, loads, NONE, 0);
        }

        /** As settle, but the bolt `held` (if not NONE) pulls just `pull`, whatever its turns are. */
        void settleHolding(Joint ring, int[] loads, int held, int pull) {
            int pulling = ring.allSet() & ~ring.brokenSet;
            if (held != NONE) {
                pulling &= ~(1 << held);
            }
            int pressed = ring.allSet();
            for (int step = 0; step < MOST_STEPS; step++) {
                fillSystem(ring, loads, pulling, pressed);
                if (held != NONE) {
                    side[held] += pull;
                }
                fillArcs(ring.bolts, ring.rib);
                solve(ring.bolts, ring.rib);
                int lifted = liftedSet(ring);
                int slack = pulling & aboveTurnsSet(ring);
                if (lifted != pressed) {
                    pressed = lifted;
                } else if (slack != 0) {
                    pulling &= ~slack;
                } else {
                    return;
                }
            }
        }

        private void fillSystem(Joint ring, int[] loads, int pulling, int pressed) {
            for (int k = 0; k < ring.bolts; k++) {
                long slope = 2L * ring.rib;
                long force = -loads[k];
                if ((pulling >> k & 1) != 0) {
                    slope += ring.stiffness[k];
                    force += (long) ring.stiffness[k] * ring.turns[k];
                }
                if ((pressed >> k & 1) != 0) {
                    slope += ring.pads[k];
                }
                diagonal[k] = slope;
                side[k] = force;
            }
        }

        /**
         * The determinants of the parts of the ring: at 6 * start + length that of so many bolts
         * side by side. With them all numbers stay whole and no greater than the answers.
         */
        private void fillArcs(int n, int rib) {
            long square = (long) rib * rib;
            for (int start = 0; start < n; start++) {
                int base = MOST_BOLTS * start;
                arcs[base] = 1;
                arcs[base + 1] = diagonal[start];
                int last = start;
                for (int length = 2; length < n; length++) {
                    last = last + 1 < n ? last + 1 : 0;
                    arcs[base + length] = diagonal[last] * arcs[base + length - 1] - square * arcs[base + length - 2];
                }
            }
            ribPowers[0] = 1;
            for (int power = 1; power <= n; power++) {
                ribPowers[power] = ribPowers[power - 1] * rib;
            }
        }

        /** Cramer's rule: a cofactor of two bolts sums both ways round the ring between them. */
        private void solve(int n, int rib) {
            int second = MOST_BOLTS;
            lower = diagonal[0] * arcs[second + n - 1] - 2 * ribPowers[n]
                    - (long) rib * rib * (arcs[second + n - 2] + arcs[2 * MOST_BOLTS + n - 2]);
            for (int k = 0; k < n; k++) {
                int next = MOST_BOLTS * (k + 1 < n ? k + 1 : 0);
                long sum = side[k] * arcs[next + n - 1];
                int other = k;
                for (int gap = 1; gap < n; gap++) {
                    other = other + 1 < n ? other + 1 : 0;
                    int beyond = MOST_BOLTS * (other + 1 < n ? other + 1 : 0);
                    long ahead = ribPowers[gap] * arcs[beyond + n - 1 - gap];
                    long behind = ribPowers[n - gap] * arcs[next + gap - 1];
                    sum += side[other] * (ahead + behind);
                }
                upper[k] = sum;
            }
        }

        private int liftedSet(Joint ring) {
            int set = 0;
            for (int k = 0; k < ring.bolts; k++) {
                if (upper[k] > 0) {
                    set |= 1 << k;
                }
            }
            return set;
        }

        private int aboveTurnsSet(Joint ring) {
            int set = 0;
            for (int k = 0; k < ring.bolts; k++) {
                if (upper[k] > lower * ring.turns[k]) {
                    set |= 1 << k;
                }
            }
            return set;
        }

        long pullUpper(Joint ring, int k) {
            if (ring.isBroken(k)) {
                return 0;
            }
            return ring.stiffness[k] * Math.max(0L, lower * ring.turns[k] - upper[k]);
        }

        long pressUpper(Joint ring, int k) {
            return ring.pads[k] * Math.max(0L, upper[k]);
        }

        boolean pullLies(Joint ring, int k, int low, int high) {
            long pull = pullUpper(ring, k);
            return pull >= lower * low && pull <= lower * high;
        }

        int slackCount(Joint ring) {
            int slack = 0;
            for (int k = 0; k < ring.bolts; k++) {
                slack += asNumber(pullUpper(ring, k) == 0);
            }
            return slack;
        }

        int openCount(Joint ring) {
            int open = 0;
            for (int k = 0; k < ring.bolts; k++) {
                open += asNumber(pressUpper(ring, k) == 0);
            }
            return open;
        }

        int leakPlace(Joint ring) {
            int place = 0;
            for (int k = 1; k < ring.bolts; k++) {
                if (pressUpper(ring, k) < pressUpper(ring, place)) {
                    place = k;
                }
            }
            return place;
        }
    }

    /** Drawing bolts, singly and by rows. */
    private static final class Drawing {
        static final int MOST_PASSES = 20;
        // each round of EVEN but the last draws a turn at least, and there are 6 times 200
        private static final int MOST_EVEN_ROUNDS = MOST_BOLTS * MOST_TURNS + 2;

        int bestPasses;
        int bestDrawn;
        int bestFigures;
        private final Lifts lifts = new Lifts();
        private final int[] kept = new int[MOST_BOLTS];
        private final int[] trial = new int[MOST_BOLTS];
        private final int[] byNumbers = {0, 1, 2, 3, 4, 5};

        void keepTurns(Joint ring) {
            System.arraycopy(ring.turns, 0, kept, 0, MOST_BOLTS);
        }

        void putTurnsBack(Joint ring) {
            System.arraycopy(kept, 0, ring.turns, 0, MOST_BOLTS);
        }

        /** Draws a bolt that is not broken to t: by how many turns; NONE if it cannot be. */
        int drawBolt(Joint ring, int k, int t) {
            // a bolt that is alone bears all loads and presses: its pull is never below the loads
            if (ring.wholeCount() == 1 && ring.sumOf(ring.loads) >= t) {
                return 0;
            }
            // with the bolt pulling just t, its lift tells the turns that make it pull so
            lifts.settleHolding(ring, ring.loads, k, t);
            long stiffness = ring.stiffness[k];
            long upper = stiffness * lifts.upper[k] + t * lifts.lower;
            long drawn = Math.max(0L, wholeFrom(upper, stiffness * lifts.lower) - ring.turns[k]);
            if (ring.turns[k] + drawn > MOST_TURNS) {
                return NONE;
            }
            ring.turns[k] += (int) drawn;
            return (int) drawn;
        }

        /** A pass: by how many turns in all; NONE if it ended. */
        int goRound(Joint ring, int[] order, int t) {
            int drawn = 0;
            for (int place = 0; place < ring.bolts; place++) {
                int k = order[place];
                if (ring.isBroken(k)) {
                    continue;
                }
                int more = drawBolt(ring, k, t);
                if (more == NONE) {
                    return NONE;
                }
                drawn += more;
            }
            return drawn;
        }

        /** Passes till all hold t: how many; NONE if `most` do not do or one ended. */
        int goRounds(Joint ring, int[] order, int t, int most) {
            for (int round = 0; round < most; round++) {
                if (allHold(ring, t)) {
                    return round;
                }
                if (goRound(ring, order, t) == NONE) {
                    return NONE;
                }
            }
            return allHold(ring, t) ? most : NONE;
        }

        private boolean allHold(Joint ring, int t) {
            lifts.settle(ring, ring.loads);
            for (int k = 0; k < ring.bolts; k++) {
                if (!ring.isBroken(k) && lifts.pullUpper(ring, k) < lifts.lower * t) {
                    return false;
                }
            }
            return true;
        }

        /** Tries all orders, the first ones first, none for more passes than the best so far. */
        void findBestRow(Joint ring, int t) {
            keepTurns(ring);
            int before = ring.sumOf(ring.turns);
            System.arraycopy(byNumbers, 0, trial, 0, MOST_BOLTS);
            bestPasses = NONE;
            boolean more = true;
            for (int order = 0; order < 720 && more; order++) {
                int rounds = goRounds(ring, trial, t, bestPasses == NONE ? MOST_PASSES : bestPasses);
                int drawn = ring.sumOf(ring.turns) - before;
                putTurnsBack(ring);
                if (rounds != NONE && (bestPasses == NONE || rounds < bestPasses
                        || rounds == bestPasses && drawn < bestDrawn)) {
                    bestPasses = rounds;
                    bestDrawn = drawn;
                    bestFigures = figuresOf(trial, ring.bolts);
                }
                more = toNextOrder(trial, ring.bolts);
            }
        }

        private static int figuresOf(int[] order, int n) {
            int figures = 0;
            for (int place = 0; place < n; place++) {
                figures = 10 * figures + order[place];
            }
            return figures;
        }

        /** Turns an order into the next one by bolts; answers whether there is one. */
        private static boolean toNextOrder(int[] order, int n) {
            int rise = n - 2;
            while (rise >= 0 && order[rise] > order[rise + 1]) {
                rise--;
            }
            if (rise < 0) {
                return false;
            }
            int above = n - 1;
            while (above > rise && order[above] < order[rise]) {
                above--;
            }
            swap(order, rise, above);
            for (int left = rise + 1, right = n - 1; left < right; left++, right--) {
                swap(order, left, right);
            }
            return true;
        }

        private static void swap(int[] order, int i, int j) {
            int first = order[i];
            order[i] = order[j];
            order[j] = first;
        }

        /**
         * Draws all whole bolts from no turns till all hold t; answers whether they can. Each
         * drawing goes no further than the least row does, so that the row reached is the least.
         */
        boolean drawEvenFromNothing(Joint ring, int t) {
            for (int k = 0; k < ring.bolts; k++) {
                if (!ring.isBroken(k)) {
                    ring.turns[k] = 0;
                }
            }
            for (int round = 0; round < MOST_EVEN_ROUNDS; round++) {
                int drawn = goRound(ring, byNumbers, t);
                if (drawn == NONE || drawn == 0) {
                    return drawn == 0;
                }
            }
            return false;
        }
    }

    /** Rows of loads in the place of the joint's own. */
    private static final class Cases {
        static final int MOST = 6;

        int count;
        final int[][] loads = new int[MOST][MOST_BOLTS];
        private long leastUpper;
        private long leastLower = 1;

        boolean has(int i) {
            return i >= 0 && i < count;
        }

        int open() {
            for (int k = 0; k < MOST_BOLTS; k++) {
                loads[count][k] = 0;
            }
            count++;
            return count - 1;
        }

        int[] loadsOf(int i, Joint ring) {
            return has(i) ? loads[i] : ring.loads;
        }

        int findWorst(Joint ring, Lifts lifts) {
            int worst = NONE;
            for (int i = NONE; i < count; i++) {
                lifts.settle(ring, loadsOf(i, ring));
                if (leaksMost(ring, lifts, i == NONE)) {
                    worst = i;
                }
            }
            return worst;
        }

        int findWeakest(Joint ring, Lifts lifts) {
            int weakest = NONE;
            for (int k = 0; k < ring.bolts && ring.wholeCount() > 1; k++) {
                if (ring.isBroken(k)) {
                    continue;
                }
                ring.markBroken(k, true);
                lifts.settle(ring, ring.loads);
                ring.markBroken(k, false);
                if (leaksMost(ring, lifts, weakest == NONE)) {
                    weakest = k;
                }
            }
            return weakest;
        }

        /** Whether the least press of the settled lifts is below all since the first; it is kept then. */
        private boolean leaksMost(Joint ring, Lifts lifts, boolean first) {
            long press = lifts.pressUpper(ring, lifts.leakPlace(ring));
            if (!first && compareFractions(press, lifts.lower, leastUpper, leastLower) >= 0) {
                return false;
            }
            leastUpper = press;
            leastLower = lifts.lower;
            return true;
        }
    }

    /** Turns missed by one, by weights. */
    private static final class Misses {
        private final int[] weights = {1, 2, 1};
        private final int[] meant = new int[MOST_BOLTS];

        void begin() {
            weigh(1, 2, 1);
        }

        void weigh(int less, int same, int more) {
            weights[0] = less;
            weights[1] = same;
            weights[2] = more;
        }

        long all(Joint ring) {
            long all = 1;
            for (int k = ring.wholeCount(); k > 0; k--) {
                all *= weights[0] + weights[1] + weights[2];
            }
            return all;
        }

        /** The weight of all misses with which all pulls lie from low to high. */
        long favourable(Joint ring, Lifts lifts, int low, int high) {
            System.arraycopy(ring.turns, 0, meant, 0, MOST_BOLTS);
            int ways = 1;
            for (int k = ring.wholeCount(); k > 0; k--) {
                ways *= 3;
            }
            long favourable = 0;
            for (int way = 0; way < ways; way++) {
                long weight = miss(ring, way);
                if (weight > 0 && allLie(ring, lifts, low, high)) {
                    favourable += weight;
                }
            }
            System.arraycopy(meant, 0, ring.turns, 0, MOST_BOLTS);
            return favourable;
        }

        /** Sets the turns of one way to miss (its figures to the base of 3 go by whole bolts); answers its weight. */
        private long miss(Joint ring, int way) {
            long weight = 1;
            int rest = way;
            for (int k = 0; k < ring.bolts; k++) {
                if (!ring.isBroken(k)) {
                    int figure = rest % 3;
                    rest /= 3;
                    weight *= weights[figure];
                    ring.turns[k] = Math.max(0, meant[k] + figure - 1);
                }
            }
            return weight;
        }

        private static boolean allLie(Joint ring, Lifts lifts, int low, int high) {
            lifts.settle(ring, ring.loads);
            for (int k = 0; k < ring.bolts; k++) {
                if (!ring.isBroken(k) && !lifts.pullLies(ring, k, low, high)) {
                    return false;
                }
            }
            return true;
        }
    }

    /** What has been told of pulls. */
    private static final class Readings {
        private static final int MOST_CHANGE = 3;

        int told;
        private final int[] lows = new int[MOST_BOLTS];
        private final int[] highs = new int[MOST_BOLTS];

        void take(int k, int low, int high) {
            told |= 1 << k;
            lows[k] = low;
            highs[k] = high;
        }

        boolean agree(Joint ring, Lifts lifts) {
            lifts.settle(ring, ring.loads);
            for (int k = 0; k < ring.bolts; k++) {
                if ((told >> k & 1) != 0 && !lifts.pullLies(ring, k, lows[k], highs[k])) {
                    return false;
                }
            }
            return true;
        }

        /** The i-th suspect, or NONE; how many there are for i = NONE. */
        int suspectAt(Joint ring, Lifts lifts, int i) {
            int found = 0;
            for (int k = 0; k < ring.bolts; k++) {
                for (int change = -MOST_CHANGE; change <= MOST_CHANGE; change++) {
                    if (!explains(ring, lifts, k, change)) {
                        continue;
                    }
                    if (found == i) {
                        return 10 * k + change + MOST_CHANGE;
                    }
                    found++;
                }
            }
            return i == NONE ? found : NONE;
        }

        private boolean explains(Joint ring, Lifts lifts, int k, int change) {
            int was = ring.turns[k];
            if (change == 0 || ring.isBroken(k) || !within(was + change, 0, MOST_TURNS)) {
                return false;
            }
            ring.turns[k] = was + change;
            boolean agree = agree(ring, lifts);
            ring.turns[k] = was;
            return agree;
        }
    }

    /** The text of the orders, and the clauses found in it. */
    private static final class Orders {
        static final int BYTES_OF_A_LONG = 8;
        static final int MOST_BYTES = 160;
        static final int DRAW = 0;
        static final int PASS = 1;
        static final int LOAD = 2;
        static final int BREAK = 3;
        static final int MEND = 4;
        static final int ROW = 5;

        private static final int TO = 6;
        private static final int BY = 7;
        private static final int NUMBER = 8;
        private static final int STOP = 9;
        private static final int END = 10;
        private static final int STRANGE = 11;
        private static final int MOST_CLAUSES = 12;
        private static final int MOST_FIGURES = 3;
        // above every bound, so that a number of too many figures lies outside, too
        private static final int TOO_LONG = 1000;

        int length;
        int flaw;
        int flawAt = NONE;
        int clauses;
        final int[] kinds = new int[MOST_CLAUSES];
        final int[] firsts = new int[MOST_CLAUSES];
        final int[] seconds = new int[MOST_CLAUSES];
        private final int[] signs = new int[MOST_BYTES];
        private int place;
        private int token;
        private int tokenAt;
        private int value;

        void append(int n, long bytes) {
            for (int shift = 8 * (n - 1); shift >= 0 && length < MOST_BYTES; shift -= 8) {
                signs[length] = (int) (bytes >> shift & 255);
                length++;
            }
        }

        /** Takes the text apart into clauses; answers whether it has no fault. */
        boolean understand(int bolts) {
            clauses = 0;
            flaw = 0;
            flawAt = NONE;
            place = 0;
            goOn();
            // a clause takes a sign at least, so that there are never more than signs
            for (int clause = 0; clause <= MOST_BYTES && token != END; clause++) {
                if (!takeClause(bolts)) {
                    return false;
                }
                clauses++;
                goOn();
            }
            return true;
        }

        private boolean takeClause(int bolts) {
            if (token > ROW) {
                return faulty(1);
            }
            if (clauses == MOST_CLAUSES) {
                return faulty(5);
            }
            kinds[clauses] = token;
            switch (token) {
                case DRAW:
                    return takeFirst(0, bolts - 1) && take(TO) && takeSecond(1, MOST_PULL) && take(STOP);
                case PASS:
                    return takeFirst(1, MOST_PULL) && take(STOP);
                case LOAD:
                    return takeFirst(0, bolts - 1) && take(BY) && takeSecond(0, MOST_LOAD) && take(STOP);
                case BREAK:
                case MEND:
                    return takeFirst(0, bolts - 1) && take(STOP);
                default:
                    return takeRow(bolts);
            }
        }

        private boolean takeFirst(int low, int high) {
            goOn();
            boolean good = numberLies(low, high);
            firsts[clauses] = value;
            return good;
        }

        private boolean takeSecond(int low, int high) {
            goOn();
            boolean good = numberLies(low, high);
            seconds[clauses] = value;
            return good;
        }

        private boolean take(int wanted) {
            goOn();
            return token == wanted || faulty(1);
        }

        /** A row's bolts till its ';', kept as one number. */
        private boolean takeRow(int bolts) {
            int seen = 0;
            int figures = 0;
            goOn();
            // bolts may not come again, so that this ends by a fault at the latest
            for (int taken = 0; taken <= bolts; taken++) {
                if (taken > 0 && token == STOP) {
                    break;
                }
                if (!numberLies(0, bolts - 1)) {
                    return false;
                }
                if ((seen >> value & 1) != 0) {
                    return faulty(3);
                }
                seen |= 1 << value;
                figures = 10 * figures + value;
                goOn();
            }
            firsts[clauses] = figures;
            return seen == (1 << bolts) - 1 || faulty(4);
        }

        private boolean numberLies(int low, int high) {
            if (token != NUMBER) {
                return faulty(1);
            }
            return within(value, low, high) || faulty(2);
        }

        private boolean faulty(int number) {
            flaw = number;
            flawAt = tokenAt;
            return false;
        }

        /** Goes on to the next word, number or other sign. */
        private void goOn() {
            while (place < length && signs[place] == ' ') {
                place++;
            }
            tokenAt = place;
            if (place >= length) {
                token = END;
            } else if (within(signs[place], 'a', 'z')) {
                while (place < length && within(signs[place], 'a', 'z')) {
                    place++;
                }
                token = wordFrom(tokenAt);
            } else if (within(signs[place], '0', '9')) {
                token = NUMBER;
                goOverNumber();
            } else {
                token = signs[place] == ';' ? STOP : STRANGE;
                place++;
            }
        }

        private void goOverNumber() {
            value = 0;
            while (place < length && within(signs[place], '0', '9')) {
                value = place - tokenAt < MOST_FIGURES ? 10 * value + signs[place] - '0' : TOO_LONG;
                place++;
            }
        }

        /** Which word stands from a byte up to the place; STRANGE if it is none of the orders. */
        private int wordFrom(int start) {
            for (int word = DRAW; word <= BY; word++) {
                if (isSpelt(spelling(word), start)) {
                    return word;
                }
            }
            return STRANGE;
        }

        private boolean isSpelt(String word, int start) {
            if (word.length() != place - start) {
                return false;
            }
            for (int i = 0; i < word.length(); i++) {
                if (word.charAt(i) != signs[start + i]) {
                    return false;
                }
            }
            return true;
        }

        private static String spelling(int word) {
            switch (word) {
                case DRAW:
                    return "draw";
                case PASS:
                    return "pass";
                case LOAD:
                    return "load";
                case BREAK:
                    return "break";
                case MEND:
                    return "mend";
                case ROW:
                    return "row";
                case TO:
                    return "to";
                default:
                    return "by";
            }
        }
    }
}
