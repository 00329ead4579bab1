import java.math.BigInteger;
import java.util.Random;

/** The sentences of the document's first lines, of section 1 and of promises 1 to 7, at their edges. */
public final class JointEdgesTest {
    private static final Check C = new Check();
    private static final int NOT = BoltRing.NOT;

    public static void main(String[] args) {
        newObjectIsAJointOfFour();
        allAsAtFirstAfterJoint();
        nothingIsLeftOfALargerJoint();
        numbersAreFromNothingOn();
        objectsStandApart();
        ringClosesAtFirstAndLast();
        turnedRing();
        mirroredRing();
        liftsAreTheRow();
        onlyOneRowOfLifts();
        leastTerms();
        slackAtJustNoPull();
        openAtJustNoPress();
        pressOfTheLeastLift();
        hardlyWholePulls();
        slackOfBroken();
        allButOneBroken();
        brokenIsWhatItWas();
        setIsWhatItWas();
        countsOfNoneAndAll();
        turnsOfAllAreCounted();
        C.end();
    }

    /** "BoltRing(): A JOINT of four BOLTS; all as at first", "4 at first", "2 at first". */
    private static void newObjectIsAJointOfFour() {
        BoltRing x = new BoltRing();
        C.due(1, "count(0)", x.count(0), 4);
        C.due(1, "told(3, 0)", x.told(3, 0), 5);
        C.due(1, "told(4, 0)", x.told(4, 0), BoltRing.UNKNOWN);
        C.holds(1, "as joint(4, 2)", Twins.everything(x).equals(Twins.everything(Check.ringOf(4, 2))));
        x = new BoltRing();
        BoltRing y = Check.ringOf(4, 2);
        BoltRing other = Check.ringOf(4, 3);
        for (BoltRing ring : new BoltRing[] {x, y, other}) {
            Check.setAll(ring, 2, 9, 2, 12, 5);
        }
        C.holds(1, "rib is 2 at first", Check.force(x, 0, 2).equals(Check.force(y, 0, 2)));
        C.holds(1, "rib is not 3 at first", !Check.force(x, 0, 2).equals(Check.force(other, 0, 2)));
    }

    /** "A JOINT of n BOLTS, all as at first (WEIGHTS too; CASES and READINGS go)": from every state, to every number. */
    private static void allAsAtFirstAfterJoint() {
        for (int from = 3; from <= 6; from++) {
            for (int n = 3; n <= 6; n++) {
                for (int rib = 1; rib <= 9; rib += 8) {
                    BoltRing[] used = {Twins.rich(from), Twins.full(from)};
                    for (BoltRing x : used) {
                        x.read();
                        x.read();
                        C.due(2, "joint(" + n + ", " + rib + ")", x.joint(n, rib), n);
                        Check.setAll(x, 2, 9, 11, 10);
                        BoltRing y = Check.ringOf(n, rib);
                        Check.setAll(y, 2, 9, 11, 10);
                        C.holds(2, "all as at first", Twins.everything(x).equals(Twins.everything(y)));
                    }
                }
            }
        }
    }

    /** What six bolts had is gone after a joint of three, and a joint of six again. */
    private static void nothingIsLeftOfALargerJoint() {
        BoltRing x = Twins.rich(6);
        for (int k = 0; k < 6; k++) {
            x.reading(k, 1900, 2000);
            x.load(2, k, 100 + k);
        }
        x.joint(3, 2);
        C.due(2, "count(6)", x.count(6), 0);
        C.due(2, "count(5)", x.count(5), 0);
        x.joint(6, 2);
        C.due(2, "count(1)", x.count(1), 0);
        C.due(2, "count(4)", x.count(4), 0);
        C.due(2, "fit()", x.fit(), 1);
        for (int i = 0; i < 3; i++) {
            C.due(14, "newCase()", x.newCase(), i);
            for (int k = 0; k < 6; k++) {
                C.due(14, "a new case's load", x.load(i, k, 0), 0);
            }
        }
        for (int k = 0; k < 6; k++) {
            C.due(2, "told(" + k + ", 0)", x.told(k, 0), 5);
            C.due(2, "told(" + k + ", 1)", x.told(k, 1), 3);
            C.due(2, "told(" + k + ", 3)", x.told(k, 3), 0);
            C.due(2, "told(" + k + ", 4)", x.told(k, 4), 0);
            C.due(2, "told(" + k + ", 7)", x.told(k, 7), k);
        }
    }

    /** "What has a number has it from 0 on". */
    private static void numbersAreFromNothingOn() {
        BoltRing x = Check.ringOf(3, 1);
        C.due(3, "set(0, 2, 4)", x.set(0, 2, 4), 0);
        C.due(5, "told(0, 2)", x.told(0, 2), 4);
        C.due(5, "told(0, 7), the first place", x.told(0, 7), 0);
        C.due(5, "told(2, 7), the last place", x.told(2, 7), 2);
        C.due(14, "newCase()", x.newCase(), 0);
        C.due(14, "newCase()", x.newCase(), 1);
        C.due(24, "suspect(0)", x.suspect(0), 0);
        x.set(0, 2, 0);
        C.due(24, "suspect(0) of bolt 0 by 1", x.suspect(0), 4);
    }

    /** What one object is told, another does not know. */
    private static void objectsStandApart() {
        BoltRing x = Check.ringOf(4, 2);
        String before = Twins.everything(Check.ringOf(4, 2));
        BoltRing y = Twins.rich(6);
        Twins.full(5).read();
        y.pass(40);
        C.holds(1, "another object changes nothing", Twins.everything(x).equals(before));
    }

    /** "NEIGHBOURS of BOLT k are the one ahead and the one behind, round and round". */
    private static void ringClosesAtFirstAndLast() {
        for (int n = 3; n <= 6; n++) {
            int last = n - 1;
            BoltRing x = Check.ringOf(n, 4);
            x.set(0, 2, 100);
            C.holds(6, "the last is bolt 0's neighbour as bolt 1 is, of " + n, sameLift(x, 1, last));
            C.holds(6, "it is lifted", Check.force(x, last, 2).compareTo(Fraction.of(0)) > 0);
            C.holds(6, "and more than those farther off", n == 3 || Check.force(x, last, 2).compareTo(Check.force(x, 2, 2)) > 0);
            x.set(0, 2, 0);
            x.set(last, 2, 100);
            C.holds(6, "bolt 0 is the last's neighbour as the one ahead is, of " + n, sameLift(x, 0, last - 1));
            C.holds(6, "and more than those farther off", n == 3 || Check.force(x, 0, 2).compareTo(Check.force(x, 1, 2)) > 0);
            x.set(last, 2, 0);
            x.set(0, 3, 100);
            C.holds(6, "a load draws at both neighbours of bolt 0", sameLift(x, 1, last)
                    && Check.force(x, last, 2).compareTo(Fraction.of(0)) < 0);
        }
        // 5 (19 - z) = 3 z + 2 z - 2 y of the last, 0 = 3 y + y - z of both others
        BoltRing x = Check.ringOf(3, 1);
        x.set(2, 2, 19);
        C.due(6, "force(2, 2, 0)", x.force(2, 2, 0), 10);
        C.due(6, "force(0, 2, 0)", x.force(0, 2, 0), 5);
        C.due(6, "force(0, 2, 1)", x.force(0, 2, 1), 2);
        C.due(6, "force(1, 2, 0)", x.force(1, 2, 0), 5);
    }

    private static boolean sameLift(BoltRing x, int k, int other) {
        return Check.force(x, k, 2).equals(Check.force(x, other, 2));
    }

    private static int[][] anyValues(Random random, int n) {
        int[][] values = new int[4][n];
        for (int k = 0; k < n; k++) {
            values[0][k] = 1 + random.nextInt(9);
            values[1][k] = 1 + random.nextInt(9);
            values[2][k] = random.nextInt(random.nextBoolean() ? 201 : 20);
            values[3][k] = random.nextBoolean() ? 0 : random.nextInt(201);
        }
        return values;
    }

    private static BoltRing ringOf(int n, int rib, int[][] values, int brokenSet) {
        BoltRing x = Check.ringOf(n, rib);
        for (int what = 0; what < 4; what++) {
            Check.setAll(x, what, values[what]);
        }
        for (int k = 0; k < n; k++) {
            if ((brokenSet >> k & 1) != 0) {
                x.broken(k, true);
            }
        }
        return x;
    }

    /** A ring turned round by any number of bolts has its lifts turned round: no bolt is first or last. */
    private static void turnedRing() {
        Random random = new Random(1);
        for (int run = 0; run < 120; run++) {
            int n = 3 + run % 4;
            int rib = 1 + random.nextInt(9);
            int[][] values = anyValues(random, n);
            int brokenSet = random.nextInt((1 << n) - 1);
            BoltRing x = ringOf(n, rib, values, brokenSet);
            for (int by = 1; by < n; by++) {
                int[][] turned = new int[4][n];
                int turnedSet = 0;
                for (int k = 0; k < n; k++) {
                    for (int what = 0; what < 4; what++) {
                        turned[what][(k + by) % n] = values[what][k];
                    }
                    turnedSet |= (brokenSet >> k & 1) << (k + by) % n;
                }
                BoltRing y = ringOf(n, rib, turned, turnedSet);
                for (int k = 0; k < n; k++) {
                    C.holds(6, "a turned ring's lift", Check.force(x, k, 2).equals(Check.force(y, (k + by) % n, 2)));
                }
            }
        }
    }

    /** "the one ahead and the one behind": a ring told backward has its pulls backward. */
    private static void mirroredRing() {
        Random random = new Random(2);
        for (int run = 0; run < 120; run++) {
            int n = 3 + run % 4;
            int rib = 1 + random.nextInt(9);
            int[][] values = anyValues(random, n);
            int[][] mirrored = new int[4][n];
            for (int k = 0; k < n; k++) {
                for (int what = 0; what < 4; what++) {
                    mirrored[what][n - 1 - k] = values[what][k];
                }
            }
            BoltRing x = ringOf(n, rib, values, 1);
            BoltRing y = ringOf(n, rib, mirrored, 1 << n - 1);
            for (int k = 0; k < n; k++) {
                C.holds(6, "a mirrored ring's pull", Check.force(x, k, 0).equals(Check.force(y, n - 1 - k, 0)));
            }
        }
    }

    /**
     * "for each k PULL is PRESS and RIB (2 z of it, less z of both NEIGHBOURS) and LOAD": exactly, at
     * all kinds of values, the least and the greatest among them, with any bolts broken.
     */
    private static void liftsAreTheRow() {
        Random random = new Random(3);
        for (int run = 0; run < 3000; run++) {
            int n = 3 + run % 4;
            int rib = run % 3 == 0 ? 1 : run % 3 == 1 ? 9 : 1 + random.nextInt(9);
            int[][] values = anyValues(random, n);
            if (run % 5 == 0) {
                int[] least = {1, 1, 0, 0};
                int[] greatest = {9, 9, 200, 200};
                for (int k = 0; k < n; k++) {
                    for (int what = 0; what < 4; what++) {
                        values[what][k] = random.nextBoolean() ? least[what] : greatest[what];
                    }
                }
            }
            int brokenSet = run % 2 == 0 ? 0 : random.nextInt((1 << n) - 1);
            balances(ringOf(n, rib, values, brokenSet), n, rib, values, brokenSet);
        }
    }

    private static void balances(BoltRing x, int n, int rib, int[][] values, int brokenSet) {
        for (int k = 0; k < n; k++) {
            Fraction lift = Check.force(x, k, 2);
            Fraction pull = Fraction.of(values[2][k]).less(lift).times(values[0][k]).atLeastNothing();
            if ((brokenSet >> k & 1) != 0) {
                pull = Fraction.of(0);
            }
            Fraction press = lift.times(values[1][k]).atLeastNothing();
            Fraction bend = lift.times(2).less(Check.force(x, (k + 1) % n, 2)).less(Check.force(x, (k + n - 1) % n, 2));
            C.holds(6, "PULL by LIFT", Check.force(x, k, 0).equals(pull));
            C.holds(6, "PRESS by LIFT", Check.force(x, k, 1).equals(press));
            C.holds(6, "PULL is PRESS, RIB and LOAD", pull.equals(press.plus(bend.times(rib)).plus(Fraction.of(values[3][k]))));
            C.due(5, "SLACK", x.told(k, 5), pull.equals(Fraction.of(0)) ? 1 : 0);
            C.due(5, "OPEN", x.told(k, 6), press.equals(Fraction.of(0)) ? 1 : 0);
        }
    }

    /** "There is just one such row of LIFTS": by whatever way the joint came to stand so. */
    private static void onlyOneRowOfLifts() {
        Random random = new Random(4);
        for (int run = 0; run < 40; run++) {
            int n = 3 + run % 4;
            int[][] values = anyValues(random, n);
            BoltRing x = ringOf(n, 5, values, 0);
            BoltRing y = ringOf(n, 5, anyValues(random, n), 1);
            y.pass(20);
            y.weakest();
            y.broken(0, false);
            y.broken(n - 1, true);
            for (int what = 3; what >= 0; what--) {
                for (int k = n - 1; k >= 0; k--) {
                    y.set(k, what, values[what][k]);
                }
            }
            y.broken(n - 1, false);
            for (int k = 0; k < n; k++) {
                C.holds(6, "the same lift by another way", Check.force(x, k, 2).equals(Check.force(y, k, 2)));
            }
        }
    }

    /** "fractions are in least terms, the lower number above 0", of nothing and of less than nothing, too. */
    private static void leastTerms() {
        BoltRing x = Check.ringOf(4, 2);
        for (int force = 0; force < 3; force++) {
            C.due(6, "nothing: the upper number", x.force(0, force, 0), 0);
            C.due(6, "nothing: the lower number", x.force(0, force, 1), 1);
        }
        C.due(16, "no leak's lower number", x.leak(-1, 1), 1);
        C.due(20, "no chance's lower number", x.chance(3, 4, 1), 1);
        C.due(20, "no chance's upper number", x.chance(3, 4, 0), 0);
        Random random = new Random(5);
        boolean below = false;
        boolean whole = false;
        for (int run = 0; run < 300; run++) {
            int n = 3 + run % 4;
            x = ringOf(n, 1 + run % 9, anyValues(random, n), 0);
            for (int k = 0; k < n; k++) {
                for (int force = 0; force < 3; force++) {
                    long upper = x.force(k, force, 0);
                    C.holds(6, "in least terms", isLeast(upper, x.force(k, force, 1)));
                    below |= upper < 0 && x.force(k, force, 1) > 1;
                    whole |= upper != 0 && x.force(k, force, 1) == 1;
                }
            }
            C.holds(16, "in least terms", isLeast(x.leak(-1, 0), x.leak(-1, 1)));
            x.weights(2, 4, 2);
            C.holds(20, "in least terms", isLeast(x.chance(0, 300, 0), x.chance(0, 300, 1)));
        }
        C.holds(6, "some lifts are fractions below 0, some forces whole", below && whole);
    }

    private static boolean isLeast(long upper, long lower) {
        return lower > 0 && BigInteger.valueOf(upper).gcd(BigInteger.valueOf(lower)).equals(BigInteger.ONE);
    }

    /** "if that is above 0, else 0 (SLACK": a lift of just the turns, and one turn more or less. */
    private static void slackAtJustNoPull() {
        int[][] values = {{1, 2, 2}, {1, 3, 5}, {8, 3, 40}, {0, 0, 0}};
        for (int by = 0; by < 3; by++) {
            int[][] turned = new int[4][3];
            for (int what = 0; what < 4; what++) {
                for (int k = 0; k < 3; k++) {
                    turned[what][(k + by) % 3] = values[what][k];
                }
            }
            int k = (1 + by) % 3;
            BoltRing x = ringOf(3, 1, turned, 0);
            C.due(6, "the lift, just the turns", x.force(k, 2, 0), 3);
            C.due(6, "the lift is whole", x.force(k, 2, 1), 1);
            C.due(6, "no pull", x.force(k, 0, 0), 0);
            C.due(5, "SLACK at just no pull", x.told(k, 5), 1);
            C.due(7, "SLACK ones", x.count(2), 1);
            x.set(k, 2, 4);
            C.due(5, "not SLACK by a turn more", x.told(k, 5), 0);
            C.due(7, "SLACK ones", x.count(2), 0);
            C.holds(6, "pull above 0", x.force(k, 0, 0) > 0);
            x.set(k, 2, 2);
            C.due(5, "SLACK by a turn less", x.told(k, 5), 1);
            C.due(6, "no pull below 0", x.force(k, 0, 0), 0);
            C.due(6, "the lift stays", x.force(k, 2, 0), 3);
        }
    }

    /** "if z is above 0, else 0 (OPEN)": a lift of just 0, and one load more or less. */
    private static void openAtJustNoPress() {
        int[][] values = {{4, 2, 5}, {3, 5, 1}, {22, 20, 4}, {0, 7, 64}};
        BoltRing x = ringOf(3, 4, values, 0);
        C.due(6, "the lift, just 0", x.force(2, 2, 0), 0);
        C.due(6, "the lift's lower number", x.force(2, 2, 1), 1);
        C.due(6, "no press", x.force(2, 1, 0), 0);
        C.due(5, "OPEN at just no press", x.told(2, 6), 1);
        C.due(7, "OPEN ones", x.count(3), 1);
        x.set(2, 3, 63);
        C.due(5, "not OPEN by a load less", x.told(2, 6), 0);
        C.due(7, "OPEN ones", x.count(3), 0);
        C.holds(6, "press and lift above 0", x.force(2, 1, 0) > 0 && x.force(2, 2, 0) > 0);
        x.set(2, 3, 65);
        C.due(5, "OPEN by a load more", x.told(2, 6), 1);
        C.due(6, "no press below 0", x.force(2, 1, 0), 0);
        C.holds(6, "the lift is below 0", x.force(2, 2, 0) < 0);
        C.due(7, "OPEN ones", x.count(3), 1);
    }

    /** "if z is above 0": however little, the PAD presses by it. */
    private static void pressOfTheLeastLift() {
        int[][][] rings = {{{2, 8, 9}, {9, 4, 9}, {31, 2, 1}, {80, 23, 3}}, {{5, 2, 1}, {9, 1, 3}, {8, 26, 25}, {41, 6, 59}},
            {{3, 6, 1}, {4, 9, 3}, {22, 8, 54}, {74, 61, 2}}};
        int[] ribs = {1, 2, 1};
        int[] bolts = {2, 0, 0};
        for (int i = 0; i < rings.length; i++) {
            BoltRing x = ringOf(3, ribs[i], rings[i], 0);
            Fraction lift = Check.force(x, bolts[i], 2);
            C.holds(6, "a lift of little", lift.compareTo(Fraction.of(0)) > 0
                    && lift.compareTo(Fraction.of(1).over(Fraction.of(200))) < 0);
            C.due(5, "it is not OPEN", x.told(bolts[i], 6), 0);
            balances(x, 3, ribs[i], rings[i], 0);
        }
    }

    /** "pulls, pads and lifts told exactly": pulls that differ from whole numbers by millionths. */
    private static void hardlyWholePulls() {
        BoltRing x = Check.hardlyAbove();
        C.due(6, "force(2, 0, 0)", x.force(2, 0, 0), 2498367440L);
        C.due(6, "force(2, 0, 1)", x.force(2, 0, 1), 19828313);
        balances(x, 6, 8, new int[][] {{1, 2, 5, 1, 9, 1}, {1, 3, 9, 6, 4, 8}, {54, 44, 26, 22, 93, 68}, {138, 0, 182, 194, 0, 98}}, 0);
        x = Check.hardlyBelow();
        C.due(6, "force(4, 0, 0)", x.force(4, 0, 0), 74223929);
        C.due(6, "force(4, 0, 1)", x.force(4, 0, 1), 3373815);
        balances(x, 6, 5, new int[][] {{8, 6, 5, 3, 6, 5}, {4, 2, 1, 4, 4, 1}, {128, 95, 181, 78, 38, 47}, {0, 0, 0, 0, 0, 148}}, 0);
    }

    /** "of a BROKEN one 0": though its turns are far above its lift. */
    private static void slackOfBroken() {
        for (int n = 3; n <= 6; n++) {
            for (int k = 0; k < n; k++) {
                BoltRing x = Check.ringOf(n, 2);
                x.set(k, 2, 200);
                C.due(5, "not SLACK", x.told(k, 5), 0);
                C.due(7, "SLACK ones", x.count(2), n - 1);
                x.broken(k, true);
                C.due(5, "a BROKEN one is SLACK", x.told(k, 5), 1);
                C.due(6, "a BROKEN one's pull", x.force(k, 0, 0), 0);
                C.due(6, "a BROKEN one's pull", x.force(k, 0, 1), 1);
                C.due(6, "no lift by it", x.force(k, 2, 0), 0);
                C.due(7, "SLACK ones", x.count(2), n);
                x.set(k, 3, 10);
                C.due(7, "all others bear its load", x.count(2), 1);
                x.broken(k, false);
                C.due(5, "a mended one is not SLACK", x.told(k, 5), 0);
            }
        }
    }

    /** "it may be BROKEN, but not all": whichever is the last. */
    private static void allButOneBroken() {
        for (int n = 3; n <= 6; n++) {
            for (int last = 0; last < n; last++) {
                BoltRing x = Check.ringOf(n, 2);
                for (int k = 0; k < n; k++) {
                    if (k != last) {
                        C.due(4, "broken(" + k + ", true)", x.broken(k, true), 0);
                    }
                }
                C.due(7, "BROKEN ones", x.count(1), n - 1);
                C.due(4, "broken of the last of " + n, x.broken(last, true), NOT);
                C.due(4, "it is not BROKEN", x.told(last, 4), 0);
                C.due(7, "BROKEN ones", x.count(1), n - 1);
                C.due(4, "broken(last, false)", x.broken(last, false), 0);
                int other = (last + 1) % n;
                C.due(4, "broken of one that is", x.broken(other, true), 1);
                C.due(4, "mended", x.broken(other, false), 1);
                C.due(4, "then the last may be", x.broken(last, true), 0);
                C.due(4, "and the mended one not", x.broken(other, true), NOT);
                Check.setAll(x, 2, 10, 10, 10, 10, 10, 10);
                C.due(7, "just one pulls", x.count(2), n - 1);
                C.due(5, "the mended one", x.told(other, 5), 0);
            }
        }
    }

    /** "A BOLT is BROKEN, or not: what it was (1, 0)". */
    private static void brokenIsWhatItWas() {
        for (int k = 0; k < 6; k++) {
            BoltRing x = Check.ringOf(6, 2);
            C.due(4, "mend of a whole one", x.broken(k, false), 0);
            C.due(4, "break", x.broken(k, true), 0);
            C.due(4, "break of a BROKEN one", x.broken(k, true), 1);
            C.due(7, "just one", x.count(1), 1);
            C.due(4, "mend", x.broken(k, false), 1);
            C.due(4, "mend again", x.broken(k, false), 0);
            C.due(7, "none", x.count(1), 0);
        }
    }

    /** "becomes v: what it was", for the first and the last bolt, and of no other. */
    private static void setIsWhatItWas() {
        for (int n = 3; n <= 6; n++) {
            for (int what = 0; what < 4; what++) {
                BoltRing x = Check.ringOf(n, 2);
                int first = what == 0 ? 5 : what == 1 ? 3 : 0;
                for (int k = n - 1; k >= 0; k--) {
                    C.due(3, "set, what it was at first", x.set(k, what, 9 - k), first);
                }
                for (int k = 0; k < n; k++) {
                    C.due(3, "set, what it was", x.set(k, what, 1), 9 - k);
                    for (int other = 0; other < 4; other++) {
                        int due = other == what ? 1 : other == 0 ? 5 : other == 1 ? 3 : 0;
                        C.due(3, "told of the set one alone", x.told(k, other), due);
                    }
                }
            }
        }
    }

    /** Each number of count() where there is none of it, and where there are all. */
    private static void countsOfNoneAndAll() {
        for (int n = 3; n <= 6; n++) {
            BoltRing x = Check.ringOf(n, 2);
            int[] atFirst = {n, 0, n, n, 0, 0, 0, 0, 0};
            for (int what = 0; what < 9; what++) {
                C.due(7, "count(" + what + ") at first", x.count(what), atFirst[what]);
            }
            for (int k = 0; k < n; k++) {
                x.set(k, 2, 200);
                C.due(21, "reading", x.reading(k, 0, 0), k + 1);
            }
            for (int i = 0; i < 6; i++) {
                x.newCase();
            }
            Check.read(x, "pass 1;".repeat(12));
            Check.feed(x, "q".repeat(160));
            int[] most = {n, 0, 0, 0, 200 * n, 6, n, 160, 12};
            for (int what = 0; what < 9; what++) {
                C.due(7, "count(" + what + ") of all", x.count(what), most[what]);
            }
            x.read();
            C.due(7, "count(7), it is empty then", x.count(7), 0);
            C.due(7, "count(8), 0 with a FAULT", x.count(8), 0);
        }
    }

    /** "4 TURNS in all": those of BROKEN ones, too. */
    private static void turnsOfAllAreCounted() {
        BoltRing x = Check.ringOf(6, 2);
        Check.setAll(x, 2, 1, 2, 4, 8, 16, 32);
        for (int k = 0; k < 5; k++) {
            x.broken(k, true);
            C.due(7, "count(4)", x.count(4), 63);
        }
    }
}
