import java.util.Random;

/** The sentences of section 4 and of promises 19 to 24, at their edges. */
public final class MissesEdgesTest {
    private static final Check C = new Check();
    private static final int NONE = BoltRing.NONE, OUTSIDE = BoltRing.OUTSIDE;

    public static void main(String[] args) {
        weightsAtFirst();
        weightsNothingToNine();
        weightsStayWhereRefused();
        missOfNoTurns();
        missOfNoTurnsUnderLoad();
        missOfAllTurns();
        missesOfBroken();
        missesOfAllButOneBroken();
        chanceFromLowToHigh();
        chanceOfNothingAndOfAll();
        chanceOfEachForItself();
        chanceLeavesTurns();
        noReading();
        readingsOfAll();
        readingInThePlaceOfAnOlder();
        readingsGo();
        fitFromLowToHigh();
        hardlyFromLowToHigh();
        fitOfBroken();
        fitOfAllReadings();
        suspectsByThree();
        suspectsWithinTwoHundred();
        suspectsInTheirOrder();
        suspectsOfNone();
        suspectsOfBroken();
        suspectsThoughAllFit();
        C.end();
    }

    private static BoltRing alike(int n, int turns) {
        BoltRing x = Check.ringOf(n, 2);
        for (int k = 0; k < n; k++) {
            x.set(k, 2, turns);
        }
        return x;
    }

    private static void chance(int promise, BoltRing x, int low, int high, long upper, long lower) {
        C.due(promise, "chance(" + low + ", " + high + ", 0)", x.chance(low, high, 0), upper);
        C.due(promise, "chance(" + low + ", " + high + ", 1)", x.chance(low, high, 1), lower);
    }

    /** All bolts but one broken, so that just that one's turns may be missed. */
    private static BoltRing alone(int n, int last, int turns) {
        BoltRing x = alike(n, turns);
        for (int k = 0; k < n; k++) {
            x.broken(k, k != last);
        }
        return x;
    }

    private static int wholePull(BoltRing x, int k) {
        return (int) (x.force(k, 0, 0) / x.force(k, 0, 1));
    }

    /** A bolt's pull in whole numbers with one turn less, as they are, one more. */
    private static int[] pullsOfMisses(int n, int last, int turns) {
        int[] pulls = new int[3];
        for (int miss = -1; miss < 2; miss++) {
            pulls[miss + 1] = wholePull(alone(n, last, Math.min(200, Math.max(0, turns + miss))), last);
        }
        return pulls;
    }

    /** "1, 2, 1 at first", for a new object and behind joint(). */
    private static void weightsAtFirst() {
        for (int n = 3; n <= 6; n++) {
            int[] pulls = pullsOfMisses(n, n - 1, 20);
            BoltRing x = alone(n, n - 1, 20);
            chance(19, x, 0, pulls[0] + 1, 1, 4);
            chance(19, x, pulls[0] + 1, pulls[1] + 1, 1, 2);
            chance(19, x, pulls[1] + 1, 2000, 1, 4);
        }
        BoltRing x = new BoltRing();
        int[] pulls = pullsOfMisses(4, 3, 20);
        x.weights(9, 9, 0);
        x.joint(4, 2);
        Check.setAll(x, 2, 20, 20, 20, 20);
        for (int k = 0; k < 3; k++) {
            x.broken(k, true);
        }
        chance(2, x, 0, pulls[0] + 1, 1, 4);
        chance(2, x, pulls[1] + 1, 2000, 1, 4);
    }

    /** "by WEIGHTS a, b, c (0 .. 9 each, 1 at least in all)": a for less, b for as they are, c for more. */
    private static void weightsNothingToNine() {
        int[] pulls = pullsOfMisses(3, 1, 20);
        for (int a = 0; a <= 9; a += 3) {
            for (int b = 0; b <= 9; b += 3) {
                for (int c = 0; c <= 9; c += 3) {
                    BoltRing x = alone(3, 1, 20);
                    int all = a + b + c;
                    C.due(19, "weights(" + a + ", " + b + ", " + c + ")", x.weights(a, b, c), all == 0 ? OUTSIDE : 1);
                    if (all > 0) {
                        parts(x, 0, pulls[0] + 1, a, all);
                        parts(x, pulls[0] + 1, pulls[1] + 1, b, all);
                        parts(x, pulls[1] + 1, 2000, c, all);
                    }
                }
            }
        }
        for (int[] w : new int[][] {{1, 0, 0}, {0, 1, 0}, {0, 0, 1}, {9, 9, 9}, {9, 0, 0}, {0, 0, 9}}) {
            BoltRing x = alone(3, 1, 20);
            C.due(19, "weights of one or of all", x.weights(w[0], w[1], w[2]), 1);
            parts(x, pulls[0] + 1, pulls[1] + 1, w[1], w[0] + w[1] + w[2]);
        }
    }

    private static void parts(BoltRing x, int low, int high, int part, int all) {
        Fraction due = Fraction.of(part).over(Fraction.of(all));
        chance(19, x, low, high, due.part(0), due.part(1));
    }

    /** "What is refused changes nothing": WEIGHTS of which one is out of its bounds, or all are 0. */
    private static void weightsStayWhereRefused() {
        int[][] outside = {{0, 0, 0}, {-1, 2, 2}, {2, -1, 2}, {2, 2, -1}, {10, 0, 0}, {0, 10, 0}, {0, 0, 10},
            {Integer.MIN_VALUE, 1, 1}, {1, Integer.MAX_VALUE, 1}, {Integer.MIN_VALUE, Integer.MIN_VALUE, 1}};
        for (int[] w : outside) {
            Twins.refused(C, 19, "weights(" + w[0] + ", ..)", () -> Twins.rich(4), x -> x.weights(w[0], w[1], w[2]), OUTSIDE);
        }
    }

    /** "one less (not below 0: then as they are)": of no turns, of one, of two. */
    private static void missOfNoTurns() {
        for (int n = 3; n <= 6; n++) {
            for (int last = 0; last < n; last += n - 1) {
                BoltRing x = alone(n, last, 0);
                x.weights(2, 3, 4);
                chance(20, x, 0, 0, 5, 9);
                chance(20, x, 1, 2000, 4, 9);
                x.weights(1, 0, 0);
                chance(20, x, 0, 0, 1, 1);
                x.weights(2, 3, 4);
                x.set(last, 2, 1);
                chance(20, x, 0, 0, 2, 9);
                int[] pulls = pullsOfMisses(n, last, 1);
                chance(20, x, 1, pulls[1] + 1, 1, 3);
                x.set(last, 2, 2);
                chance(20, x, 0, 0, 0, 1);
            }
        }
    }

    /** "then as they are", where a load makes bolts pull that have no turns: by one less all pull as they did. */
    private static void missOfNoTurnsUnderLoad() {
        for (int n = 3; n <= 6; n++) {
            for (int k = 0; k < n; k++) {
                BoltRing x = Check.ringOf(n, 1);
                x.set(k, 3, 100);
                x.set((k + 1) % n, 0, 9);
                x.set((k + 2) % n, 2, 20);
                BoltRing y = Check.ringOf(n, 1);
                y.set(k, 3, 100);
                y.set((k + 1) % n, 0, 9);
                y.set((k + 2) % n, 2, 19);
                C.holds(20, "the loaded one pulls without turns", y.force(k, 0, 0) > 0 && y.count(3) < n);
                int pull = wholePull(y, k);
                x.weights(1, 0, 0);
                chance(20, x, 0, pull + 1, 1, 1);
                chance(20, x, 0, pull, 0, 1);
            }
        }
    }

    /** "one more": also of 200 turns, as just what is below 0 is ruled out. */
    private static void missOfAllTurns() {
        for (int n = 3; n <= 6; n++) {
            int pull = wholePull(alone(n, 0, 200), 0);
            BoltRing x = alone(n, 0, 200);
            x.weights(2, 3, 4);
            chance(20, x, pull + 1, 2000, 4, 9);
            chance(20, x, 0, pull + 1, 5, 9);
            C.due(20, "the turns stay", x.told(0, 2), 200);
            x.set(0, 2, 199);
            chance(20, x, pull + 1, 2000, 0, 1);
        }
    }

    /** "TURNS of each BOLT that is not BROKEN", "all PULLS of BOLTS that are not BROKEN". */
    private static void missesOfBroken() {
        for (int n = 3; n <= 6; n++) {
            for (int k = 0; k < n; k++) {
                BoltRing x = alike(n, 40);
                x.broken(k, true);
                x.weights(0, 1, 0);
                chance(20, x, 1, 2000, 1, 1);
                x.weights(1, 1, 1);
                chance(20, x, 1, 2000, 1, 1);
                x.weights(0, 1, 1);
                // its turns do not count: with any number of them the chance is the same
                long upper = x.chance(0, wholePull(x, (k + 1) % n) + 1, 0);
                long lower = x.chance(0, wholePull(x, (k + 1) % n) + 1, 1);
                C.holds(20, "some chance", upper > 0 && upper < lower);
                C.holds(20, "of the bolts not BROKEN alone", (1 << n - 1) % lower == 0);
                x.set(k, 2, 0);
                C.due(20, "chance", x.chance(0, wholePull(x, (k + 1) % n) + 1, 0), upper);
                x.set(k, 2, 200);
                C.due(20, "chance", x.chance(0, wholePull(x, (k + 1) % n) + 1, 1), lower);
            }
        }
    }

    /** All bolts but one BROKEN: just its turns are missed, just its pull counts. */
    private static void missesOfAllButOneBroken() {
        for (int n = 3; n <= 6; n++) {
            for (int last = 0; last < n; last++) {
                BoltRing x = alone(n, last, 30);
                int[] pulls = pullsOfMisses(n, last, 30);
                x.weights(5, 0, 6);
                chance(20, x, pulls[0], pulls[1], 5, 11);
                chance(20, x, pulls[2], pulls[2] + 1, 6, 11);
                chance(20, x, pulls[0] + 1, pulls[1] + 1, 0, 1);
            }
        }
    }

    /** "lie from low to high": just at low and at high they do, a whole number beyond they do not. */
    private static void chanceFromLowToHigh() {
        for (int n = 3; n <= 6; n++) {
            BoltRing x = alike(n, 16);
            x.weights(0, 7, 0);
            chance(20, x, 30, 30, 1, 1);
            chance(20, x, 29, 30, 1, 1);
            chance(20, x, 30, 31, 1, 1);
            chance(20, x, 31, 32, 0, 1);
            chance(20, x, 28, 29, 0, 1);
            for (int k = 0; k < n; k++) {
                x.set(k, 3, 1);
                C.holds(20, "one pulls a little more", Check.force(x, k, 0).compareTo(Fraction.of(30)) > 0);
                chance(20, x, 30, 30, 0, 1);
                chance(20, x, 30, 31, 1, 1);
                x.set(k, 3, 0);
            }
        }
    }

    /** "low 0 .. high, high 2000 at most": the narrowest and the widest, no pull at all and all that there can be. */
    private static void chanceOfNothingAndOfAll() {
        for (int n = 3; n <= 6; n++) {
            BoltRing x = Check.ringOf(n, 2);
            x.weights(1, 1, 0);
            chance(20, x, 0, 0, 1, 1);
            chance(20, x, 1, 2000, 0, 1);
            x.weights(9, 9, 9);
            chance(20, x, 0, 2000, 1, 1);
            chance(20, x, 2000, 2000, 0, 1);
            x = Twins.rich(n);
            chance(20, x, 0, 2000, 1, 1);
        }
    }

    /** "each for itself": the weight of a row of misses is the product of all bolts'. */
    private static void chanceOfEachForItself() {
        Random random = new Random(1);
        for (int run = 0; run < 40; run++) {
            int n = 3 + run % 4;
            int[] turns = new int[n];
            int[] weights = {random.nextInt(10), 1 + random.nextInt(9), random.nextInt(10)};
            int high = 20 + random.nextInt(40);
            int brokenBolt = run % 3 == 0 ? random.nextInt(n) : -1;
            int[] loads = new int[n];
            for (int k = 0; k < n; k++) {
                turns[k] = random.nextInt(20) * random.nextInt(2);
                loads[k] = random.nextInt(60) * random.nextInt(2) * (run % 2);
            }
            long favourable = 0;
            long all = 1;
            int ways = 1;
            for (int k = 0; k < n; k++) {
                ways *= 3;
                all *= weights[0] + weights[1] + weights[2];
            }
            for (int way = 0; way < ways; way++) {
                BoltRing y = Check.ringOf(n, 2);
                Check.setAll(y, 3, loads);
                long weight = 1;
                for (int k = 0, rest = way; k < n; k++, rest /= 3) {
                    weight *= weights[rest % 3];
                    y.set(k, 2, Math.max(0, turns[k] + rest % 3 - 1));
                }
                y.broken(brokenBolt, true);
                favourable += allLie(y, 1, high) ? weight : 0;
            }
            BoltRing x = Check.ringOf(n, 2);
            Check.setAll(x, 2, turns);
            Check.setAll(x, 3, loads);
            x.broken(brokenBolt, true);
            x.weights(weights[0], weights[1], weights[2]);
            Fraction due = Fraction.of(favourable).over(Fraction.of(all));
            chance(20, x, 1, high, due.part(0), due.part(1));
        }
    }

    private static boolean allLie(BoltRing x, int low, int high) {
        boolean all = true;
        for (int k = 0; k < x.count(0); k++) {
            Fraction pull = Check.force(x, k, 0);
            all &= x.told(k, 4) == 1 || pull.compareTo(Fraction.of(low)) >= 0 && pull.compareTo(Fraction.of(high)) <= 0;
        }
        return all;
    }

    /** TURNS that may be missed are not changed by asking. */
    private static void chanceLeavesTurns() {
        for (int n = 3; n <= 6; n++) {
            BoltRing x = alike(n, 0);
            x.set(n - 1, 2, 200);
            x.set(1, 2, 7);
            String before = Check.state(x);
            x.chance(0, 100, 0);
            x.chance(5, 2000, 1);
            C.holds(20, "chance changes nothing", before.equals(Check.state(x)));
        }
    }

    /** No READING: they FIT, and every change is a SUSPECT. */
    private static void noReading() {
        for (int n = 3; n <= 6; n++) {
            BoltRing x = alike(n, 50);
            C.due(22, "forget()", x.forget(), 0);
            C.due(7, "count(6)", x.count(6), 0);
            C.due(23, "fit()", x.fit(), 1);
            C.due(24, "suspect(-1)", x.suspect(NONE), 6 * n);
            C.due(24, "suspect(0)", x.suspect(0), 0);
            C.due(24, "suspect, the last", x.suspect(6 * n - 1), 10 * (n - 1) + 6);
            C.due(24, "suspect behind the last", x.suspect(6 * n), NONE);
        }
    }

    /** "how many there are": from the first to one of each BOLT, and none told twice. */
    private static void readingsOfAll() {
        for (int n = 3; n <= 6; n++) {
            BoltRing x = alike(n, 16);
            for (int k = n - 1; k >= 0; k--) {
                C.due(21, "reading(" + k + ", ..)", x.reading(k, 30, 30), n - k);
                C.due(7, "count(6)", x.count(6), n - k);
                C.due(21, "reading again", x.reading(k, 30, 30), n - k);
            }
            C.due(23, "fit() of all", x.fit(), 1);
            C.due(24, "suspect(-1) of all", x.suspect(NONE), 0);
            C.due(22, "forget()", x.forget(), n);
            C.due(7, "count(6)", x.count(6), 0);
        }
    }

    /** "(in the place of an older one)". */
    private static void readingInThePlaceOfAnOlder() {
        for (int k = 0; k < 5; k++) {
            BoltRing x = alike(5, 16);
            C.due(21, "reading", x.reading(k, 31, 2000), 1);
            C.due(23, "fit()", x.fit(), 0);
            C.due(21, "reading", x.reading(k, 0, 2000), 1);
            C.due(23, "fit(), the older one is gone", x.fit(), 1);
            C.due(21, "reading", x.reading(k, 0, 29), 1);
            C.due(23, "fit()", x.fit(), 0);
            C.due(21, "reading of another", x.reading((k + 1) % 5, 30, 30), 2);
            C.due(23, "fit(), both count", x.fit(), 0);
            C.due(21, "reading", x.reading(k, 30, 30), 2);
            C.due(23, "fit()", x.fit(), 1);
        }
    }

    /** "No READINGS: how many there were", and none comes back by joint() or by a new one. */
    private static void readingsGo() {
        BoltRing x = alike(4, 16);
        for (int k = 0; k < 4; k++) {
            x.reading(k, 0, 1);
        }
        C.due(22, "forget()", x.forget(), 4);
        C.due(22, "forget() again", x.forget(), 0);
        C.due(23, "fit()", x.fit(), 1);
        C.due(21, "reading", x.reading(2, 30, 30), 1);
        C.due(23, "fit(), the others are gone", x.fit(), 1);
        x.reading(1, 0, 1);
        x.joint(4, 2);
        C.due(2, "count(6) behind joint()", x.count(6), 0);
        Check.setAll(x, 2, 16, 16, 16, 16);
        C.due(2, "fit() behind joint()", x.fit(), 1);
        C.due(22, "forget() behind joint()", x.forget(), 0);
    }

    /** "that it lies from low to high": just low, just high, a little more than high, a little less than low. */
    private static void fitFromLowToHigh() {
        for (int n = 3; n <= 6; n++) {
            for (int k = 0; k < n; k++) {
                BoltRing x = alike(n, 16);
                int[][] told = {{30, 30, 1}, {0, 30, 1}, {30, 2000, 1}, {0, 29, 0}, {31, 2000, 0}, {31, 31, 0}, {29, 29, 0}};
                for (int[] t : told) {
                    x.reading(k, t[0], t[1]);
                    C.due(23, "fit() of " + t[0] + " to " + t[1], x.fit(), t[2]);
                }
                x.set((k + 1) % n, 2, 17);
                C.holds(23, "a little less than 30", Check.force(x, k, 0).compareTo(Fraction.of(29)) > 0
                        && Check.force(x, k, 0).compareTo(Fraction.of(30)) < 0);
                told = new int[][] {{30, 2000, 0}, {29, 30, 1}, {0, 29, 0}, {0, 30, 1}, {29, 29, 0}, {30, 30, 0}};
                for (int[] t : told) {
                    x.reading(k, t[0], t[1]);
                    C.due(23, "fit() of " + t[0] + " to " + t[1], x.fit(), t[2]);
                }
            }
        }
        BoltRing x = Check.ringOf(3, 2);
        x.reading(0, 0, 0);
        C.due(23, "fit() of no pull", x.fit(), 1);
        x.reading(0, 1, 1);
        C.due(23, "fit() of no pull", x.fit(), 0);
        x.reading(0, 2000, 2000);
        C.due(23, "fit() of no pull", x.fit(), 0);
    }

    /** "lies from low to high": beyond by a millionth it does not, within by as much it does. */
    private static void hardlyFromLowToHigh() {
        BoltRing x = Check.hardlyAbove();
        x.reading(2, 0, 126);
        C.due(23, "fit() of hardly above", x.fit(), 0);
        x.reading(2, 126, 2000);
        C.due(23, "fit() of hardly above", x.fit(), 1);
        x = Check.hardlyBelow();
        x.reading(4, 22, 2000);
        C.due(23, "fit() of hardly below", x.fit(), 0);
        x.reading(4, 0, 22);
        C.due(23, "fit() of hardly below", x.fit(), 1);
        x.weights(0, 1, 0);
        chance(20, x, 22, 2000, 0, 1);
        chance(20, x, 21, 2000, 1, 1);
    }

    /** "of a BROKEN one 0": so its READING is held against a pull of 0. */
    private static void fitOfBroken() {
        for (int k = 0; k < 4; k++) {
            BoltRing x = alike(4, 16);
            x.reading(k, 30, 30);
            x.broken(k, true);
            C.due(23, "fit(), a BROKEN one's pull is 0", x.fit(), 0);
            C.due(21, "reading of a BROKEN one", x.reading(k, 0, 0), 1);
            C.due(23, "fit()", x.fit(), 1);
            x.broken(k, false);
            C.due(23, "fit() of it, mended", x.fit(), 0);
        }
    }

    /** "They FIT, if all do": one that does not is enough, whichever it is. */
    private static void fitOfAllReadings() {
        for (int n = 3; n <= 6; n++) {
            for (int odd = 0; odd < n; odd++) {
                BoltRing x = alike(n, 16);
                for (int k = 0; k < n; k++) {
                    x.reading(k, 30, k == odd ? 2000 : 30);
                }
                C.due(23, "fit()", x.fit(), 1);
                x.reading(odd, 31, 2000);
                C.due(23, "fit()", x.fit(), 0);
            }
        }
    }

    /** "a change of its TURNS by -3 to 3, not 0": 3 is one, 4 is none, on both sides. */
    private static void suspectsByThree() {
        for (int n = 3; n <= 6; n++) {
            for (int k = 0; k < n; k++) {
                for (int change = -5; change <= 5; change++) {
                    BoltRing x = alike(n, 50);
                    x.set(k, 2, 50 - change);
                    Fraction pull = Check.force(alike(n, 50), k, 0);
                    C.holds(24, "a pull of 93 3/4", pull.equals(Fraction.of(375).over(Fraction.of(4))));
                    for (int i = 0; i < n; i++) {
                        x.reading(i, 93, 94);
                    }
                    boolean is = change != 0 && change >= -3 && change <= 3;
                    C.due(24, "fit()", x.fit(), change == 0 ? 1 : 0);
                    C.due(24, "suspect(-1) by " + change, x.suspect(NONE), is ? 1 : 0);
                    C.due(24, "suspect(0) by " + change, x.suspect(0), is ? 10 * k + change + 3 : NONE);
                    C.due(24, "suspect(1) by " + change, x.suspect(1), NONE);
                    C.due(24, "the turns stay", x.told(k, 2), 50 - change);
                }
            }
        }
    }

    /** "(0 .. 200 then)": what changes each number of turns near both ends leaves. */
    private static void suspectsWithinTwoHundred() {
        for (int turns = 0; turns <= 200; turns += turns == 6 ? 188 : 1) {
            BoltRing x = Check.ringOf(3, 2);
            x.broken(0, true);
            x.broken(2, true);
            x.set(1, 2, turns);
            int found = 0;
            for (int change = -3; change <= 3; change++) {
                if (change != 0 && turns + change >= 0 && turns + change <= 200) {
                    C.due(24, "suspect(" + found + ") of " + turns + " turns", x.suspect(found), 10 + change + 3);
                    found++;
                }
            }
            C.due(24, "suspect(-1) of " + turns + " turns", x.suspect(NONE), found);
            C.due(24, "no more", x.suspect(found), NONE);
        }
    }

    /** "SUSPECTS go by BOLTS, then changes rising". */
    private static void suspectsInTheirOrder() {
        for (int n = 3; n <= 6; n++) {
            BoltRing x = alike(n, 50);
            x.set(0, 2, 1);
            x.set(n - 1, 2, 198);
            int[] all = new int[6 * n];
            int found = 0;
            for (int k = 0; k < n; k++) {
                for (int change = -3; change <= 3; change++) {
                    int turns = x.told(k, 2) + change;
                    if (change != 0 && turns >= 0 && turns <= 200) {
                        all[found++] = 10 * k + change + 3;
                    }
                }
            }
            C.due(24, "suspect(-1)", x.suspect(NONE), found);
            for (int i = 0; i < found; i++) {
                C.due(24, "suspect(" + i + ")", x.suspect(i), all[i]);
            }
        }
    }

    /** "NONE: there is none such". */
    private static void suspectsOfNone() {
        BoltRing x = alike(4, 16);
        x.reading(0, 1999, 2000);
        C.due(24, "suspect(-1)", x.suspect(NONE), 0);
        for (int i : new int[] {0, 1, 23, 24, Integer.MAX_VALUE}) {
            C.due(24, "suspect(" + i + ")", x.suspect(i), NONE);
        }
        x.forget();
        C.due(24, "suspect(23)", x.suspect(23), 36);
        for (int i : new int[] {24, 25, 1000, Integer.MAX_VALUE, -2, -3, Integer.MIN_VALUE}) {
            C.due(24, "suspect(" + i + ")", x.suspect(i), NONE);
        }
    }

    /** "a BOLT that is not BROKEN". */
    private static void suspectsOfBroken() {
        for (int k = 0; k < 4; k++) {
            BoltRing x = alike(4, 50);
            x.broken(k, true);
            C.due(24, "suspect(-1)", x.suspect(NONE), 18);
            for (int i = 0; i < 18; i++) {
                C.holds(24, "not the BROKEN one", x.suspect(i) / 10 != k);
            }
            x.broken(k, false);
            for (int i = 0; i < 4; i++) {
                x.broken(i, i != k);
            }
            C.due(24, "suspect(-1) of one", x.suspect(NONE), 6);
            C.due(24, "suspect(5) of one", x.suspect(5), 10 * k + 6);
        }
    }

    /** "with which READINGS FIT": a SUSPECT though they FIT without it; none by what others' turns would do. */
    private static void suspectsThoughAllFit() {
        BoltRing x = alike(3, 16);
        x.reading(1, 28, 32);
        C.due(23, "fit()", x.fit(), 1);
        int found = 0;
        for (int k = 0; k < 3; k++) {
            for (int change = -3; change <= 3; change++) {
                BoltRing y = alike(3, 16);
                y.set(k, 2, 16 + change);
                Fraction pull = Check.force(y, 1, 0);
                if (change != 0 && pull.compareTo(Fraction.of(28)) >= 0 && pull.compareTo(Fraction.of(32)) <= 0) {
                    C.due(24, "suspect(" + found + ")", x.suspect(found), 10 * k + change + 3);
                    found++;
                }
            }
        }
        C.holds(24, "some are, some are not", found > 0 && found < 18);
        C.due(24, "suspect(-1)", x.suspect(NONE), found);
    }
}
