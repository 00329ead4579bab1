/** Promises 19 to 24: misses, readings. */
public final class MissesTest {
    private static final Check C = new Check();
    private static final int UNKNOWN = BoltRing.UNKNOWN, OUTSIDE = BoltRing.OUTSIDE;

    public static void main(String[] args) {
        weights();
        chanceOfOneBolt();
        chanceAtTheEdges();
        chanceOfAll();
        chanceOfSix();
        chanceRefused();
        readings();
        forgetting();
        fitting();
        suspects();
        suspectsAtTheEdges();
        C.end();
    }

    /** Three bolts, just bolt 0 not broken, rib 2 and turns: its pull is a fixed part of its turns. */
    private static BoltRing single(int turns) {
        BoltRing x = Check.ringOf(3, 2);
        x.broken(1, true);
        x.broken(2, true);
        x.set(0, 2, turns);
        return x;
    }

    private static void chance(int promise, BoltRing x, int low, int high, long upper, long lower) {
        C.due(promise, "chance(" + low + ", " + high + ", 0)", x.chance(low, high, 0), upper);
        C.due(promise, "chance(" + low + ", " + high + ", 1)", x.chance(low, high, 1), lower);
    }

    private static void weights() {
        BoltRing x = single(20);
        int pull = (int) (x.force(0, 0, 0) / x.force(0, 0, 1));
        C.due(19, "weights(9, 0, 1)", x.weights(9, 0, 1), 1);
        chance(19, x, 0, pull, 9, 10);
        C.due(19, "weights(0, 0, 9)", x.weights(0, 0, 9), 1);
        chance(19, x, 0, pull, 0, 1);
        C.due(19, "weights(2, 3, 4)", x.weights(2, 3, 4), 1);
        chance(19, x, 0, pull, 2, 9);
        int[][] outside = {{0, 0, 0}, {-1, 1, 1}, {1, -1, 1}, {1, 1, -1}, {10, 1, 1}, {1, 10, 1}, {1, 1, 10}, {-1, 0, 1}};
        C.due(19, "weights(4, 9, 5)", x.weights(4, 9, 5), 1);
        C.due(19, "weights(2, 3, 4)", x.weights(2, 3, 4), 1);
        for (int[] o : outside) {
            C.due(19, "weights(" + o[0] + ", " + o[1] + ", " + o[2] + ")", x.weights(o[0], o[1], o[2]), OUTSIDE);
        }
        chance(19, x, 0, pull, 2, 9);
    }

    /** A miss of a turn is a miss of pull by the same part. */
    private static void chanceOfOneBolt() {
        BoltRing x = single(20);
        long lower = x.force(0, 0, 1);
        long[] pulls = new long[3];
        for (int miss = 0; miss < 3; miss++) {
            x.set(0, 2, 19 + miss);
            pulls[miss] = x.force(0, 0, 0) / x.force(0, 0, 1);
        }
        x.set(0, 2, 20);
        C.holds(20, "the pulls differ, and are not whole", pulls[0] < pulls[1] && pulls[1] < pulls[2] && lower > 1);
        chance(20, x, 0, 2000, 1, 1);
        chance(20, x, 0, (int) pulls[0], 0, 1);
        chance(20, x, 0, (int) pulls[0] + 1, 1, 4);
        chance(20, x, 0, (int) pulls[1] + 1, 3, 4);
        chance(20, x, (int) pulls[0] + 1, (int) pulls[1] + 1, 1, 2);
        chance(20, x, (int) pulls[1], 2000, 3, 4);
        chance(20, x, 2000, 2000, 0, 1);
        C.due(20, "turns stay", x.told(0, 2), 20);
    }

    /** No turns cannot be one less; 200 may be one more. Loads of 300 hold the pads open. */
    private static void chanceAtTheEdges() {
        BoltRing x = single(0);
        chance(20, x, 0, 0, 3, 4);
        x.weights(1, 0, 1);
        chance(20, x, 0, 0, 1, 2);
        x = single(200);
        x.weights(0, 0, 1);
        int pull = (int) (x.force(0, 0, 0) / x.force(0, 0, 1));
        chance(20, x, pull + 1, 2000, 1, 1);
        x = Check.ringOf(3, 2);
        Check.setAll(x, 2, 8, 8, 8);
        x.weights(0, 1, 0);
        chance(20, x, 15, 15, 1, 1);
        chance(20, x, 16, 17, 0, 1);
        chance(20, x, 14, 14, 0, 1);
        x.set(0, 3, 1);
        chance(20, x, 15, 15, 0, 1);
    }

    /** Held against all misses told one by one. */
    private static void chanceOfAll() {
        int[] weights = {2, 3, 5};
        int[] turns = {12, 0, 11};
        for (int low = 0; low < 30; low += 7) {
            long favourable = 0;
            BoltRing y = Check.ringOf(4, 3);
            y.broken(2, true);
            for (int way = 0; way < 27; way++) {
                int[] figures = {way % 3, way / 3 % 3, way / 9};
                long weight = 1;
                boolean lie = true;
                for (int i = 0; i < 3; i++) {
                    weight *= weights[figures[i]];
                    y.set(i == 2 ? 3 : i, 2, Math.max(0, turns[i] + figures[i] - 1));
                }
                for (int k = 0; k < 4; k++) {
                    long upper = y.force(k, 0, 0);
                    long lower = y.force(k, 0, 1);
                    lie &= k == 2 || upper >= low * lower && upper <= (low + 28) * lower;
                }
                favourable += lie ? weight : 0;
            }
            BoltRing x = Check.ringOf(4, 3);
            x.broken(2, true);
            x.weights(2, 3, 5);
            Check.setAll(x, 2, 12, 0, 50, 11);
            long upper = x.chance(low, low + 28, 0);
            long lower = x.chance(low, low + 28, 1);
            C.due(20, "chance(" + low + ", " + (low + 28) + ")", upper * 1000, favourable * lower);
            C.holds(20, "in least terms", 1000 % lower == 0);
        }
    }

    private static void chanceOfSix() {
        BoltRing x = Check.ringOf(6, 9);
        Check.setAll(x, 2, 100, 100, 100, 100, 100, 100);
        x.weights(9, 9, 8);
        chance(20, x, 0, 2000, 1, 1);
        // only with all as they are do all pulls lie about 187 1/2
        x.weights(0, 9, 8);
        chance(20, x, 187, 188, 531441, 24137569);
    }

    private static void chanceRefused() {
        BoltRing x = single(5);
        C.due(20, "chance(5, 4, 0)", x.chance(5, 4, 0), OUTSIDE);
        C.due(20, "chance(-1, 4, 0)", x.chance(-1, 4, 0), OUTSIDE);
        C.due(20, "chance(0, 2001, 0)", x.chance(0, 2001, 0), OUTSIDE);
        C.due(20, "chance(0, 1, 2)", x.chance(0, 1, 2), OUTSIDE);
        C.due(20, "chance(0, 1, -1)", x.chance(0, 1, -1), OUTSIDE);
        C.due(20, "chance(0, 0, 1)", x.chance(0, 0, 1), 1);
    }

    private static void readings() {
        BoltRing x = Check.ringOf(4, 2);
        C.due(21, "reading(1, 0, 2000)", x.reading(1, 0, 2000), 1);
        C.due(21, "reading(3, 7, 7)", x.reading(3, 7, 7), 2);
        C.due(21, "reading(1, 5, 6), in the place of the older one", x.reading(1, 5, 6), 2);
        C.due(21, "count(6)", x.count(6), 2);
        x.broken(2, true);
        C.due(21, "reading(2, 0, 0) of a broken one", x.reading(2, 0, 0), 3);
        C.due(21, "reading(4, 0, 1)", x.reading(4, 0, 1), UNKNOWN);
        C.due(21, "reading(-1, 2, 1)", x.reading(-1, 2, 1), UNKNOWN);
        C.due(21, "reading(0, 2, 1)", x.reading(0, 2, 1), OUTSIDE);
        C.due(21, "reading(0, -1, 1)", x.reading(0, -1, 1), OUTSIDE);
        C.due(21, "reading(0, 0, 2001)", x.reading(0, 0, 2001), OUTSIDE);
        C.due(21, "count(6)", x.count(6), 3);
        x = Check.ringOf(4, 2);
        Check.setAll(x, 2, 8, 8, 8, 8);
        x.reading(0, 15, 15);
        C.due(21, "fit()", x.fit(), 1);
        x.reading(0, 16, 15);
        C.due(21, "a refused reading changes nothing", x.fit(), 1);
        x.reading(0, 16, 16);
        C.due(21, "the older one is gone", x.fit(), 0);
    }

    private static void forgetting() {
        BoltRing x = Check.ringOf(4, 2);
        C.due(22, "forget()", x.forget(), 0);
        x.reading(0, 5, 5);
        x.reading(1, 5, 5);
        C.due(22, "fit()", x.fit(), 0);
        C.due(22, "forget()", x.forget(), 2);
        C.due(22, "fit()", x.fit(), 1);
        C.due(22, "count(6)", x.count(6), 0);
        C.due(22, "forget()", x.forget(), 0);
    }

    private static void fitting() {
        BoltRing x = Check.ringOf(4, 2);
        C.due(23, "fit() without readings", x.fit(), 1);
        Check.setAll(x, 2, 8, 8, 8, 8);
        x.reading(0, 15, 15);
        C.due(23, "fit() on both bounds", x.fit(), 1);
        x.reading(2, 14, 15);
        C.due(23, "fit()", x.fit(), 1);
        x.reading(3, 0, 14);
        C.due(23, "fit(), one is above", x.fit(), 0);
        x.reading(3, 16, 2000);
        C.due(23, "fit(), one is below", x.fit(), 0);
        x.reading(3, 15, 2000);
        C.due(23, "fit()", x.fit(), 1);
        x.set(1, 2, 9);
        C.due(23, "fit(), a neighbour was drawn", x.fit(), 0);
        x.set(1, 2, 8);
        x.set(0, 3, 1);
        C.due(23, "fit(), by the joint's loads", x.fit(), 0);
        x.set(0, 3, 0);
        x.broken(1, true);
        x.forget();
        x.reading(1, 0, 0);
        C.due(23, "fit() of a broken one", x.fit(), 1);
        x.reading(1, 1, 5);
        C.due(23, "fit() of a broken one", x.fit(), 0);
    }

    /** Readings as they would be had bolt 1 been drawn by two turns more; all others but 2 are told loosely. */
    private static void suspects() {
        BoltRing y = Check.ringOf(4, 2);
        Check.setAll(y, 2, 10, 12, 10, 10);
        BoltRing x = Check.ringOf(4, 2);
        Check.setAll(x, 2, 10, 10, 10, 10);
        for (int k = 0; k < 4; k++) {
            int pull = (int) (y.force(k, 0, 0) / y.force(k, 0, 1));
            x.reading(k, pull, pull + 1);
        }
        C.due(24, "fit()", x.fit(), 0);
        C.due(24, "suspect(-1)", x.suspect(-1), 1);
        C.due(24, "suspect(0)", x.suspect(0), 15);
        C.due(24, "suspect(1)", x.suspect(1), -1);
        C.due(24, "turns stay", x.told(1, 2), 10);
        x.set(1, 2, 12);
        C.due(24, "fit()", x.fit(), 1);
        C.due(24, "suspect(-1), no change is none", x.suspect(-1), 0);
        x.set(1, 2, 9);
        C.due(24, "suspect(0), three more", x.suspect(0), 16);
        x.set(1, 2, 15);
        C.due(24, "suspect(0), three less", x.suspect(0), 10);
        x.set(1, 2, 8);
        C.due(24, "suspect(-1), four would be too many", x.suspect(-1), 0);
        x.broken(3, true);
        x.reading(3, 1, 9);
        C.due(24, "suspect(-1), a broken one that cannot fit", x.suspect(-1), 0);
    }

    private static void suspectsAtTheEdges() {
        BoltRing x = Check.ringOf(3, 2);
        Check.setAll(x, 2, 0, 199, 2);
        int[] all = {4, 5, 6, 10, 11, 12, 14, 21, 22, 24, 25, 26};
        C.due(24, "suspect(-1) without readings", x.suspect(-1), all.length);
        for (int i = 0; i < all.length; i++) {
            C.due(24, "suspect(" + i + ")", x.suspect(i), all[i]);
        }
        C.due(24, "suspect(12)", x.suspect(all.length), -1);
        C.due(24, "suspect(-2)", x.suspect(-2), -1);
        C.due(24, "suspect(2147483647)", x.suspect(Integer.MAX_VALUE), -1);
        x.broken(1, true);
        C.due(24, "suspect(-1) beside a broken one", x.suspect(-1), 8);
        C.due(24, "suspect(3)", x.suspect(3), 21);
    }
}
