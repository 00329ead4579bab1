import java.util.Arrays;

/**
 * The bounds of every number that a call takes: the one just inside is taken, the one just outside
 * is refused and changes nothing; of several refusals the first in the document's order.
 */
public final class BoundsTest {
    private static final Check C = new Check();
    private static final int NONE = BoltRing.NONE, UNKNOWN = BoltRing.UNKNOWN, OUTSIDE = BoltRing.OUTSIDE;
    private static final int NOT = BoltRing.NOT, FULL = BoltRing.FULL, LARGE = BoltRing.LARGE;

    private interface Of {
        long on(BoltRing x, int v);
    }

    public static void main(String[] args) {
        numbersOfJoint();
        for (int n = 3; n <= 6; n++) {
            numbersOfBolts(n);
        }
        numbersOfSet();
        numbersOfTelling();
        pullsWanted();
        numbersOfBest();
        numbersOfCases();
        numbersOfMisses();
        numbersOfReadings();
        numbersOfFeeding();
        unknownAheadOfOutside();
        unknownAndOutsideAheadOfNot();
        outsideAndLargeOfBest();
        outsideAheadOfFull();
        refusedAsNotNow();
        refusedAsFull();
        C.end();
    }

    /** The first three have cases, the last has none. */
    private static Twins.Maker[] makers(int n) {
        return new Twins.Maker[] {() -> Twins.rich(n), () -> Twins.faulty(n), () -> Twins.full(n), () -> Check.ringOf(n, 1)};
    }

    private static void refused(int promise, String what, int n, Twins.Call call, int due) {
        for (Twins.Maker maker : makers(n)) {
            Twins.refused(C, promise, what, maker, call, due);
        }
    }

    /** The numbers low and high are taken, those just below and above are not, nor are the farthest ones. */
    private static void bounds(int promise, String what, int n, Of call, int low, int high, int due) {
        bounds(promise, what, makers(n), call, low, high, due);
    }

    private static void bounds(int promise, String what, Twins.Maker[] makers, Of call, int low, int high, int due) {
        for (int v = low; v <= high; v += Math.max(1, high - low)) {
            for (Twins.Maker maker : makers) {
                long answer = call.on(maker.make(), v);
                C.holds(promise, what + " of " + v + " is taken", answer != UNKNOWN && answer != OUTSIDE);
            }
        }
        for (int v : new int[] {low - 1, high + 1, Integer.MIN_VALUE, Integer.MAX_VALUE}) {
            for (Twins.Maker maker : makers) {
                Twins.refused(C, promise, what + " of " + v, maker, x -> call.on(x, v), due);
            }
        }
    }

    /** "A JOINT has n BOLTS (3 .. 6)", "RIB (1 .. 9)". */
    private static void numbersOfJoint() {
        bounds(2, "joint's bolts", 4, (x, v) -> x.joint(v, 1), 3, 6, OUTSIDE);
        bounds(2, "joint's bolts", 5, (x, v) -> x.joint(v, 9), 3, 6, OUTSIDE);
        bounds(2, "joint's rib", 4, (x, v) -> x.joint(3, v), 1, 9, OUTSIDE);
        bounds(2, "joint's rib", 3, (x, v) -> x.joint(6, v), 1, 9, OUTSIDE);
    }

    /** "UNKNOWN (a BOLT, CASE that there is not)", "what has a number has it from 0 on". */
    private static void numbersOfBolts(int n) {
        int last = n - 1;
        for (int what = 0; what < 4; what++) {
            int of = what;
            bounds(3, "set's bolt of " + n, n, (x, k) -> x.set(k, of, 5), 0, last, UNKNOWN);
        }
        bounds(4, "broken's bolt of " + n, n, (x, k) -> x.broken(k, true), 0, last, UNKNOWN);
        bounds(4, "broken's bolt of " + n, n, (x, k) -> x.broken(k, false), 0, last, UNKNOWN);
        for (int what = 0; what < 8; what++) {
            int of = what;
            bounds(5, "told's bolt of " + n, n, (x, k) -> x.told(k, of), 0, last, UNKNOWN);
        }
        for (int force = 0; force < 3; force++) {
            int of = force;
            bounds(6, "force's bolt of " + n, n, (x, k) -> x.force(k, of, 0), 0, last, UNKNOWN);
            bounds(6, "force's bolt of " + n, n, (x, k) -> x.force(k, of, 1), 0, last, UNKNOWN);
        }
        bounds(8, "draw's bolt of " + n, n, (x, k) -> x.draw(k, 40), 0, last, UNKNOWN);
        bounds(13, "even's bolt of " + n, n, (x, k) -> x.even(40, k), NONE, last, UNKNOWN);
        bounds(15, "load's bolt of " + n, Arrays.copyOf(makers(n), 3), (x, k) -> x.load(0, k, 1), 0, last, UNKNOWN);
        bounds(21, "reading's bolt of " + n, n, (x, k) -> x.reading(k, 0, 1), 0, last, UNKNOWN);
    }

    /** "STIFFNESS (1 .. 9), a PAD (1 .. 9), TURNS (0 .. 200) and a LOAD (0 .. 200)". */
    private static void numbersOfSet() {
        int[] low = {1, 1, 0, 0};
        int[] high = {9, 9, 200, 200};
        for (int n = 3; n <= 6; n++) {
            for (int k = 0; k < n; k += n - 1) {
                int bolt = k;
                for (int what = 0; what < 4; what++) {
                    int of = what;
                    bounds(3, "set(" + k + ", " + what + ", v)", n, (x, v) -> x.set(bolt, of, v), low[what], high[what], OUTSIDE);
                    for (int v : new int[] {low[what], high[what]}) {
                        BoltRing x = Twins.rich(n);
                        int was = x.told(k, what);
                        C.due(3, "set's answer", x.set(k, what, v), was);
                        C.due(3, "what was set at the bound", x.told(k, what), v);
                    }
                }
            }
        }
        bounds(3, "set(0, what, 5)", 4, (x, what) -> x.set(0, what, 5), 0, 3, OUTSIDE);
        bounds(3, "set(3, what, 1)", 4, (x, what) -> x.set(3, what, 1), 0, 3, OUTSIDE);
    }

    /** "what = 0 .. 7" of told, "force = 0 .. 2" and "what = 0 .. 1" of force, "0 .. 8" of count. */
    private static void numbersOfTelling() {
        bounds(5, "told(0, what)", 4, (x, what) -> x.told(0, what), 0, 7, OUTSIDE);
        bounds(6, "force(0, force, 0)", 4, (x, force) -> x.force(0, force, 0), 0, 2, OUTSIDE);
        bounds(6, "force(1, force, 1)", 4, (x, force) -> x.force(1, force, 1), 0, 2, OUTSIDE);
        bounds(6, "force(0, 0, what)", 4, (x, what) -> x.force(0, 0, what), 0, 1, OUTSIDE);
        bounds(6, "force(1, 2, what)", 4, (x, what) -> x.force(1, 2, what), 0, 1, OUTSIDE);
        bounds(7, "count(what)", 4, (x, what) -> x.count(what), 0, 8, OUTSIDE);
    }

    /** "T (1 .. 900)". */
    private static void pullsWanted() {
        for (int n = 3; n <= 6; n++) {
            bounds(8, "draw(0, t)", n, (x, t) -> x.draw(0, t), 1, 900, OUTSIDE);
            bounds(8, "draw(n - 1, t)", n, (x, t) -> x.draw(x.count(0) - 1, t), 1, 900, OUTSIDE);
            bounds(10, "pass(t)", n, (x, t) -> x.pass(t), 1, 900, OUTSIDE);
            bounds(11, "passes(t)", n, (x, t) -> x.passes(t), 1, 900, OUTSIDE);
            bounds(13, "even(t, 0)", n, (x, t) -> x.even(t, 0), 1, 900, OUTSIDE);
            bounds(13, "even(t, -1)", n, (x, t) -> x.even(t, NONE), 1, 900, OUTSIDE);
        }
    }

    /** "what = 0 it, .. 1 PASSES, 2 TURNS drawn", "T (1 .. 900)", also where six BOLTS are too many. */
    private static void numbersOfBest() {
        for (int n = 3; n <= 6; n++) {
            for (int what = 0; what < 3; what++) {
                int of = what;
                bounds(12, "best(t, " + what + ")", n, (x, t) -> x.best(t, of), 1, 900, OUTSIDE);
            }
            bounds(12, "best(30, what)", n, (x, what) -> x.best(30, what), 0, 2, OUTSIDE);
        }
    }

    private static BoltRing withCases(int n, int cases) {
        BoltRing x = Twins.rich(n);
        x.joint(n, 2);
        Check.setAll(x, 2, 20, 21, 22);
        for (int i = 0; i < cases; i++) {
            x.newCase();
            x.load(i, i % n, 10 + i);
        }
        return x;
    }

    /** "UNKNOWN (a BOLT, CASE that there is not)", "CASES (6 at most)": with none, some and six. */
    private static void numbersOfCases() {
        for (int cases = 0; cases <= 6; cases++) {
            int count = cases;
            Twins.Maker maker = () -> withCases(4, count);
            for (int i : new int[] {cases, cases + 1, 6, 7, -2, Integer.MIN_VALUE, Integer.MAX_VALUE}) {
                Twins.refused(C, 15, "load of case " + i + " of " + cases, maker, x -> x.load(i, 0, 1), UNKNOWN);
                for (int what = 0; what < 3; what++) {
                    int of = what;
                    Twins.refused(C, 16, "leak of case " + i + " of " + cases, maker, x -> x.leak(i, of), UNKNOWN);
                }
            }
            Twins.refused(C, 15, "load of case -1 of " + cases, maker, x -> x.load(NONE, 0, 1), UNKNOWN);
            BoltRing x = maker.make();
            C.holds(16, "leak(-1, 1) is told", x.leak(NONE, 1) > 0);
            for (int i = 0; i < cases; i++) {
                C.holds(16, "leak of case " + i + " of " + cases, x.leak(i, 1) > 0);
                C.due(15, "load of case " + i + " of " + cases, x.load(i, i, 7), i < 4 ? 10 + i : UNKNOWN);
            }
        }
        for (int n = 3; n <= 6; n++) {
            Twins.Maker[] withCases = Arrays.copyOf(makers(n), 3);
            for (int i = 0; i < 3; i++) {
                int of = i;
                bounds(15, "load(i, 0, v)", withCases, (x, v) -> x.load(of, 0, v), 0, 200, OUTSIDE);
                bounds(16, "leak(i, what)", withCases, (x, what) -> x.leak(of, what), 0, 2, OUTSIDE);
            }
            bounds(16, "leak(-1, what)", n, (x, what) -> x.leak(NONE, what), 0, 2, OUTSIDE);
        }
    }

    /** "WEIGHTS a, b, c (0 .. 9 each, 1 at least in all)", "OUTSIDE (also: all are 0)". */
    private static void numbersOfMisses() {
        bounds(19, "weights(v, 1, 0)", 4, (x, v) -> x.weights(v, 1, 0), 0, 9, OUTSIDE);
        bounds(19, "weights(0, v, 1)", 4, (x, v) -> x.weights(0, v, 1), 0, 9, OUTSIDE);
        bounds(19, "weights(1, 0, v)", 4, (x, v) -> x.weights(1, 0, v), 0, 9, OUTSIDE);
        bounds(19, "weights(v, 0, 0)", 4, (x, v) -> x.weights(v, 0, 0), 1, 9, OUTSIDE);
        bounds(19, "weights(0, v, 0)", 4, (x, v) -> x.weights(0, v, 0), 1, 9, OUTSIDE);
        bounds(19, "weights(0, 0, v)", 4, (x, v) -> x.weights(0, 0, v), 1, 9, OUTSIDE);
        refused(19, "weights(0, 0, 0)", 4, x -> x.weights(0, 0, 0), OUTSIDE);
        refused(19, "weights(-1, 1, 1)", 4, x -> x.weights(-1, 1, 1), OUTSIDE);
        refused(19, "weights(-1, 0, 1), none in all", 4, x -> x.weights(-1, 0, 1), OUTSIDE);
        refused(19, "weights(2, -1, 0), one in all", 4, x -> x.weights(2, -1, 0), OUTSIDE);
        refused(19, "weights(10, 0, -9), one in all", 4, x -> x.weights(10, 0, -9), OUTSIDE);
        bounds(20, "chance(low, 30, 0)", 4, (x, low) -> x.chance(low, 30, 0), 0, 30, OUTSIDE);
        bounds(20, "chance(low, 2000, 1)", 4, (x, low) -> x.chance(low, 2000, 1), 0, 2000, OUTSIDE);
        bounds(20, "chance(low, 0, 1)", 4, (x, low) -> x.chance(low, 0, 1), 0, 0, OUTSIDE);
        bounds(20, "chance(30, high, 0)", 4, (x, high) -> x.chance(30, high, 0), 30, 2000, OUTSIDE);
        bounds(20, "chance(0, high, 1)", 4, (x, high) -> x.chance(0, high, 1), 0, 2000, OUTSIDE);
        bounds(20, "chance(2000, high, 1)", 4, (x, high) -> x.chance(2000, high, 1), 2000, 2000, OUTSIDE);
        bounds(20, "chance(0, 30, what)", 4, (x, what) -> x.chance(0, 30, what), 0, 1, OUTSIDE);
    }

    /** "that it lies from low to high (0 .. 2000)". */
    private static void numbersOfReadings() {
        for (int n = 3; n <= 6; n++) {
            for (int k = 0; k < n; k++) {
                int of = k;
                bounds(21, "reading(k, low, 30)", n, (x, low) -> x.reading(of, low, 30), 0, 30, OUTSIDE);
                bounds(21, "reading(k, low, 2000)", n, (x, low) -> x.reading(of, low, 2000), 0, 2000, OUTSIDE);
                bounds(21, "reading(k, low, 0)", n, (x, low) -> x.reading(of, low, 0), 0, 0, OUTSIDE);
                bounds(21, "reading(k, 30, high)", n, (x, high) -> x.reading(of, 30, high), 30, 2000, OUTSIDE);
                bounds(21, "reading(k, 0, high)", n, (x, high) -> x.reading(of, 0, high), 0, 2000, OUTSIDE);
                bounds(21, "reading(k, 2000, high)", n, (x, high) -> x.reading(of, 2000, high), 2000, 2000, OUTSIDE);
            }
        }
    }

    /** "n 1 .. 8". */
    private static void numbersOfFeeding() {
        bounds(25, "feed(n, blanks)", 4, (x, n) -> x.feed(n, 0x2020202020202020L), 1, 8, OUTSIDE);
        bounds(25, "feed(n, 0)", 5, (x, n) -> x.feed(n, 0), 1, 8, OUTSIDE);
    }

    /** "REFUSALS, of several the first in this order: UNKNOWN, OUTSIDE": all that can name a bolt or a case. */
    private static void unknownAheadOfOutside() {
        for (int n = 3; n <= 6; n++) {
            for (int k : new int[] {-2, n, n + 1, Integer.MIN_VALUE, Integer.MAX_VALUE}) {
                refused(3, "set(unknown, 4, 1)", n, x -> x.set(k, 4, 1), UNKNOWN);
                refused(3, "set(unknown, 0, 0)", n, x -> x.set(k, 0, 0), UNKNOWN);
                refused(3, "set(unknown, -1, 201)", n, x -> x.set(k, -1, 201), UNKNOWN);
                refused(5, "told(unknown, 8)", n, x -> x.told(k, 8), UNKNOWN);
                refused(5, "told(unknown, -1)", n, x -> x.told(k, -1), UNKNOWN);
                refused(6, "force(unknown, 3, 0)", n, x -> x.force(k, 3, 0), UNKNOWN);
                refused(6, "force(unknown, 0, -1)", n, x -> x.force(k, 0, -1), UNKNOWN);
                refused(8, "draw(unknown, 0)", n, x -> x.draw(k, 0), UNKNOWN);
                refused(8, "draw(unknown, 901)", n, x -> x.draw(k, 901), UNKNOWN);
                refused(13, "even(0, unknown)", n, x -> x.even(0, k), UNKNOWN);
                refused(13, "even(901, unknown)", n, x -> x.even(901, k), UNKNOWN);
                refused(15, "load(0, unknown, 201)", n, x -> x.load(0, k, 201), UNKNOWN);
                refused(15, "load(unknown, 0, -1)", n, x -> x.load(k < 0 ? k : 6, 0, -1), UNKNOWN);
                refused(15, "load(unknown, unknown, -1)", n, x -> x.load(k < 0 ? k : 6, k, -1), UNKNOWN);
                refused(16, "leak(unknown, 3)", n, x -> x.leak(k < 0 ? k : 6, 3), UNKNOWN);
                refused(16, "leak(unknown, -1)", n, x -> x.leak(k < 0 ? k : 6, -1), UNKNOWN);
                refused(21, "reading(unknown, 2, 1)", n, x -> x.reading(k, 2, 1), UNKNOWN);
                refused(21, "reading(unknown, -1, 2001)", n, x -> x.reading(k, -1, 2001), UNKNOWN);
            }
        }
    }

    /** UNKNOWN and OUTSIDE stand ahead of NOT. */
    private static void unknownAndOutsideAheadOfNot() {
        for (int n = 3; n <= 6; n++) {
            int count = n;
            Twins.Maker alone = () -> Twins.full(count);
            Twins.refused(C, 4, "broken(unknown, true) where all would be", alone, x -> x.broken(count, true), UNKNOWN);
            Twins.refused(C, 4, "broken(-1, true) where all would be", alone, x -> x.broken(-1, true), UNKNOWN);
            Twins.refused(C, 8, "draw(unknown, 900)", alone, x -> x.draw(count, 900), UNKNOWN);
            for (int t : new int[] {0, 901}) {
                Twins.refused(C, 8, "draw of a broken one to " + t, alone, x -> x.draw(1, t), OUTSIDE);
                Twins.refused(C, 8, "draw that cannot be to " + t, () -> Check.ringOf(count, 2), x -> x.draw(0, t), OUTSIDE);
                Twins.refused(C, 10, "pass that ends to " + t, () -> Check.ringOf(count, 2), x -> x.pass(t), OUTSIDE);
                Twins.refused(C, 11, "passes that end to " + t, () -> Check.ringOf(count, 2), x -> x.passes(t), OUTSIDE);
                Twins.refused(C, 13, "even that is none to " + t, () -> Check.ringOf(count, 2), x -> x.even(t, 0), OUTSIDE);
            }
            Twins.refused(C, 13, "even(900, unknown)", () -> Check.ringOf(count, 2), x -> x.even(900, count), UNKNOWN);
        }
    }

    /** "OUTSIDE; LARGE (ahead of NOT): six BOLTS; NOT: no order does". */
    private static void outsideAndLargeOfBest() {
        for (int what = 0; what < 3; what++) {
            int of = what;
            refused(12, "best(900, what) of six, LARGE ahead of NOT", 6, x -> x.best(900, of), LARGE);
            refused(12, "best(1, what) of six", 6, x -> x.best(1, of), LARGE);
            refused(12, "best(0, what) of six, OUTSIDE ahead of LARGE", 6, x -> x.best(0, of), OUTSIDE);
            refused(12, "best(901, what) of six, OUTSIDE ahead of LARGE", 6, x -> x.best(901, of), OUTSIDE);
            Twins.refused(C, 12, "best(900, what) of five", () -> Twins.rich(5), x -> x.best(900, of), NOT);
            Twins.refused(C, 12, "best(901, what) of five", () -> Twins.rich(5), x -> x.best(901, of), OUTSIDE);
        }
        refused(12, "best(900, 3) of six, OUTSIDE ahead of LARGE and NOT", 6, x -> x.best(900, 3), OUTSIDE);
        refused(12, "best(900, -1) of six, OUTSIDE ahead of LARGE and NOT", 6, x -> x.best(900, -1), OUTSIDE);
        refused(12, "best(900, 3) of five, OUTSIDE ahead of NOT", 5, x -> x.best(900, 3), OUTSIDE);
    }

    /** "OUTSIDE, FULL": a number of bytes out of its bounds behind a full text. */
    private static void outsideAheadOfFull() {
        for (int n = 3; n <= 6; n++) {
            int count = n;
            for (int bytes : new int[] {0, 9, -1, Integer.MIN_VALUE, Integer.MAX_VALUE}) {
                Twins.refused(C, 25, "feed(" + bytes + ", 0) behind 160", () -> Twins.full(count), x -> x.feed(bytes, 0), OUTSIDE);
            }
        }
    }

    /** What is refused by NOT changes nothing (a pass that ends is told apart: it has drawn). */
    private static void refusedAsNotNow() {
        for (int n = 3; n <= 6; n++) {
            int count = n;
            Twins.Maker alone = () -> Twins.full(count);
            Twins.Maker plain = () -> Check.ringOf(count, 2);
            Twins.refused(C, 4, "broken(0, true), all would be", alone, x -> x.broken(0, true), NOT);
            Twins.refused(C, 8, "draw of a broken one", alone, x -> x.draw(1, 1), NOT);
            Twins.refused(C, 8, "draw that cannot be", plain, x -> x.draw(0, 900), NOT);
            Twins.refused(C, 8, "draw that cannot be", alone, x -> x.draw(0, 900), NOT);
            Twins.refused(C, 10, "a pass that ends at once", plain, x -> x.pass(900), NOT);
            Twins.refused(C, 11, "passes that end at once", plain, x -> x.passes(900), NOT);
            Twins.refused(C, 11, "passes that end", () -> Twins.rich(count), x -> x.passes(900), NOT);
            Twins.refused(C, 13, "even that is none", () -> Twins.rich(count), x -> x.even(900, 0), NOT);
            Twins.refused(C, 13, "even that is none", plain, x -> x.even(900, NONE), NOT);
        }
    }

    /** "FULL": a seventh case; a text of more than 160 bytes. */
    private static void refusedAsFull() {
        for (int n = 3; n <= 6; n++) {
            int count = n;
            Twins.Maker full = () -> Twins.full(count);
            Twins.refused(C, 14, "newCase(), the seventh", full, x -> x.newCase(), FULL);
            for (int bytes = 1; bytes <= 8; bytes++) {
                int of = bytes;
                Twins.refused(C, 25, "feed(" + bytes + ", ..) behind 160", full, x -> x.feed(of, -1), FULL);
            }
        }
    }
}
