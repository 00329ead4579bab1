import java.util.Random;

/** The sentences of section 3's CASES and of promises 14 to 18, at their edges. */
public final class LoadsEdgesTest {
    private static final Check C = new Check();
    private static final int NONE = BoltRing.NONE, UNKNOWN = BoltRing.UNKNOWN, FULL = BoltRing.FULL;

    public static void main(String[] args) {
        noCase();
        sixCases();
        casesGoWithAJoint();
        loadsOfCasesStandInThePlaceOfTheJoints();
        loadIsWhatItWas();
        leakOfNone();
        leakIsTheLeastOfAll();
        leaksOfLikePlaces();
        leakOfABroken();
        leaksLastPlace();
        worstOfNoCase();
        worstOfLikeOnes();
        worstByHardlyAnything();
        worstOfEach();
        weakestOfLikeOnes();
        weakestBesideBroken();
        weakestOfTwoAndOfOne();
        weakestByTheJointsLoads();
        C.end();
    }

    private static BoltRing drawn(int n, int turns) {
        BoltRing x = Check.ringOf(n, 3);
        for (int k = 0; k < n; k++) {
            x.set(k, 2, turns);
        }
        return x;
    }

    /** No CASE: none to load or to leak, and the joint's own is the worst. */
    private static void noCase() {
        for (int n = 3; n <= 6; n++) {
            BoltRing x = drawn(n, 16);
            C.due(7, "count(5)", x.count(5), 0);
            for (int i = 0; i < 7; i++) {
                C.due(15, "load(" + i + ", 0, 1)", x.load(i, 0, 1), UNKNOWN);
                C.due(16, "leak(" + i + ", 0)", x.leak(i, 0), UNKNOWN);
            }
            C.due(15, "load(-1, 0, 1)", x.load(NONE, 0, 1), UNKNOWN);
            C.due(3, "the joint's load stays", x.told(0, 3), 0);
            C.due(16, "leak(-1, 0)", x.leak(NONE, 0), 30);
            C.due(17, "worst()", x.worst(), NONE);
        }
    }

    /** "CASES (6 at most)": the sixth is one, the seventh is FULL. */
    private static void sixCases() {
        for (int n = 3; n <= 6; n++) {
            BoltRing x = drawn(n, 16);
            for (int i = 0; i < 6; i++) {
                C.due(16, "leak(i, 0) ahead of it", x.leak(i, 0), UNKNOWN);
                C.due(15, "load(i, 0, 0) ahead of it", x.load(i, 0, 0), UNKNOWN);
                C.due(14, "newCase()", x.newCase(), i);
                C.due(7, "count(5)", x.count(5), i + 1);
                C.due(16, "leak(i, 0)", x.leak(i, 0), 30);
                for (int k = 0; k < n; k++) {
                    C.due(15, "a new case's load", x.load(i, k, 1 + i + k), 0);
                }
            }
            for (int again = 0; again < 3; again++) {
                C.due(14, "newCase(), the seventh", x.newCase(), FULL);
                C.due(7, "count(5)", x.count(5), 6);
            }
            C.due(15, "load(6, 0, 0)", x.load(6, 0, 0), UNKNOWN);
            C.due(16, "leak(6, 0)", x.leak(6, 0), UNKNOWN);
            for (int i = 0; i < 6; i++) {
                for (int k = 0; k < n; k++) {
                    C.due(15, "a case's load", x.load(i, k, 0), 1 + i + k);
                }
            }
        }
    }

    /** "CASES and READINGS go", and the first anew has no LOAD of the old one. */
    private static void casesGoWithAJoint() {
        BoltRing x = Twins.full(6);
        x.joint(6, 2);
        C.due(7, "count(5)", x.count(5), 0);
        C.due(16, "leak(0, 1)", x.leak(0, 1), UNKNOWN);
        for (int i = 0; i < 6; i++) {
            C.due(14, "newCase()", x.newCase(), i);
            for (int k = 0; k < 6; k++) {
                C.due(14, "all LOADS 0", x.load(i, k, 0), 0);
            }
        }
        C.due(14, "newCase()", x.newCase(), FULL);
    }

    /** "rows of LOADS, in the place of those of the JOINT": not beside them. */
    private static void loadsOfCasesStandInThePlaceOfTheJoints() {
        Random random = new Random(1);
        for (int run = 0; run < 60; run++) {
            int n = 3 + run % 4;
            BoltRing x = drawn(n, 20);
            BoltRing y = drawn(n, 20);
            x.broken(run % n, run % 3 == 0);
            y.broken(run % n, run % 3 == 0);
            for (int k = 0; k < n; k++) {
                x.set(k, 3, random.nextInt(201));
            }
            x.newCase();
            x.newCase();
            for (int k = 0; k < n; k++) {
                int load = random.nextInt(random.nextBoolean() ? 201 : 30);
                x.load(1, k, load);
                y.set(k, 3, load);
            }
            for (int what = 0; what < 3; what++) {
                C.due(16, "leak(1, " + what + ")", x.leak(1, what), y.leak(NONE, what));
            }
            for (int k = 0; k < n; k++) {
                y.set(k, 3, 0);
            }
            C.holds(16, "leak of all LOADS 0", Check.leak(x, 0).equals(Check.leak(y, NONE)));
        }
    }

    /** "becomes v: what it was", of that case and that bolt alone. */
    private static void loadIsWhatItWas() {
        for (int n = 3; n <= 6; n++) {
            BoltRing x = drawn(n, 20);
            for (int i = 0; i < 6; i++) {
                x.newCase();
            }
            for (int k = 0; k < n; k++) {
                C.due(15, "load(5, k, 200)", x.load(5, k, 200), 0);
                C.due(15, "load(0, k, 1)", x.load(0, k, 1), 0);
                C.due(15, "load(5, k, 0)", x.load(5, k, 0), 200);
                C.due(15, "load(5, k, 9)", x.load(5, k, 9), 0);
                C.due(15, "load(3, k, 0)", x.load(3, k, 0), 0);
                C.due(15, "load(0, k, 0)", x.load(0, k, 0), 1);
                C.due(3, "the joint's own", x.told(k, 3), 0);
                x.set(k, 3, 77);
                C.due(15, "load(5, k, 9) again", x.load(5, k, 9), 9);
            }
        }
    }

    private static void leakIs(BoltRing x, int i, long upper, long lower, int place) {
        C.due(16, "leak(" + i + ", 0)", x.leak(i, 0), upper);
        C.due(16, "leak(" + i + ", 1)", x.leak(i, 1), lower);
        C.due(16, "leak(" + i + ", 2)", x.leak(i, 2), place);
    }

    /** No PRESS at all: 0 over 1, at the first bolt. */
    private static void leakOfNone() {
        for (int n = 3; n <= 6; n++) {
            BoltRing x = Check.ringOf(n, 2);
            leakIs(x, NONE, 0, 1, 0);
            x.newCase();
            leakIs(x, 0, 0, 1, 0);
            for (int k = 0; k < n; k++) {
                x.set(k, 3, 200);
                x.load(0, k, 1);
            }
            leakIs(x, NONE, 0, 1, 0);
            leakIs(x, 0, 0, 1, 0);
        }
    }

    /** "the least PRESS of all BOLTS": by what force() tells of each. */
    private static void leakIsTheLeastOfAll() {
        Random random = new Random(2);
        for (int run = 0; run < 300; run++) {
            int n = 3 + run % 4;
            BoltRing x = Check.ringOf(n, 1 + random.nextInt(9));
            for (int k = 0; k < n; k++) {
                x.set(k, 0, 1 + random.nextInt(9));
                x.set(k, 1, 1 + random.nextInt(9));
                x.set(k, 2, random.nextInt(60));
                x.set(k, 3, random.nextInt(60) * (run % 2));
            }
            x.broken(random.nextInt(n), run % 3 == 0);
            Fraction least = Check.force(x, 0, 1);
            int place = 0;
            for (int k = 1; k < n; k++) {
                if (Check.force(x, k, 1).compareTo(least) < 0) {
                    least = Check.force(x, k, 1);
                    place = k;
                }
            }
            leakIs(x, NONE, least.part(0), least.part(1), place);
        }
    }

    /** "its place: the first BOLT that has it": of all alike, of the two farthest off, of two OPEN ones. */
    private static void leaksOfLikePlaces() {
        for (int n = 3; n <= 6; n++) {
            BoltRing x = drawn(n, 16);
            leakIs(x, NONE, 30, 1, 0);
            for (int k = 0; k < n; k++) {
                x = Check.ringOf(n, 1);
                x.set(k, 2, 100);
                int ahead = (k + n / 2) % n;
                int behind = (k + (n + 1) / 2) % n;
                C.holds(16, "both have it", Check.force(x, ahead, 1).equals(Check.force(x, behind, 1)));
                C.holds(16, "there is some", x.leak(NONE, 0) > 0);
                C.due(16, "the first of the farthest", x.leak(NONE, 2), Math.min(ahead, behind));
            }
        }
        for (int k = 0; k < 3; k++) {
            BoltRing x = drawn(6, 16);
            x.set(k, 3, 200);
            x.set(k + 3, 3, 200);
            C.due(7, "two are OPEN", x.count(3), 2);
            leakIs(x, NONE, 0, 1, k);
        }
    }

    /** "of all BOLTS": of BROKEN ones, too, each of them in its turn. */
    private static void leakOfABroken() {
        for (int n = 3; n <= 6; n++) {
            for (int k = 0; k < n; k++) {
                BoltRing x = drawn(n, 16);
                x.broken(k, true);
                C.due(16, "its place", x.leak(NONE, 2), k);
                C.holds(16, "its press", Check.leak(x, NONE).equals(Check.force(x, k, 1)));
            }
        }
    }

    /** "its place": each bolt, the first and the last among them, in the JOINT and in a CASE. */
    private static void leaksLastPlace() {
        for (int n = 3; n <= 6; n++) {
            for (int k = 0; k < n; k++) {
                BoltRing x = drawn(n, 40);
                x.set(k, 3, 3);
                C.due(16, "the loaded one's place", x.leak(NONE, 2), k);
                x.newCase();
                x.load(0, n - 1 - k, 3);
                C.due(16, "the loaded one's place in a case", x.leak(0, 2), n - 1 - k);
            }
        }
    }

    /** "the LOADS of the JOINT ahead of them (NONE)": where there is no CASE, whatever its LOADS are. */
    private static void worstOfNoCase() {
        BoltRing x = Check.ringOf(4, 2);
        C.due(17, "worst() without turns", x.worst(), NONE);
        Check.setAll(x, 3, 200, 200, 200, 200);
        C.due(17, "worst() with loads", x.worst(), NONE);
    }

    /** "the LOADS of the JOINT ahead of them (NONE), .. of like ones the first". */
    private static void worstOfLikeOnes() {
        // the leaks of both rows of loads are 11 / 4, though the loads differ
        int[][] loads = {{4, 20, 8}, {16, 19, 0}};
        for (int joint = 0; joint < 2; joint++) {
            BoltRing x = Check.ringOf(3, 2);
            Check.setAll(x, 0, 3, 1, 2);
            Check.setAll(x, 1, 3, 2, 4);
            Check.setAll(x, 2, 11, 18, 10);
            Check.setAll(x, 3, loads[joint]);
            x.newCase();
            x.newCase();
            x.newCase();
            for (int k = 0; k < 3; k++) {
                x.load(1, k, loads[1 - joint][k]);
                x.load(2, k, loads[joint][k]);
            }
            for (int i : new int[] {NONE, 1, 2}) {
                C.due(16, "the leak of each", x.leak(i, 0), 11);
                C.due(16, "the leak of each", x.leak(i, 1), 4);
            }
            C.due(17, "the joint's own of like ones", x.worst(), NONE);
            Check.setAll(x, 3, 0, 0, 0);
            C.due(17, "the first case of like ones", x.worst(), 1);
            x.load(2, 1, loads[joint][1] + 1);
            C.due(17, "a little more", x.worst(), 2);
        }
        BoltRing x = drawn(4, 20);
        for (int i = 0; i < 6; i++) {
            x.newCase();
        }
        C.due(17, "worst() of seven like ones", x.worst(), NONE);
        for (int i = 5; i >= 0; i--) {
            for (int k = 0; k < 4; k++) {
                x.load(i, k, 200 - i);
            }
            C.due(17, "the first of those with no press", x.worst(), i);
        }
        Check.setAll(x, 3, 199, 199, 199, 199);
        C.due(17, "the joint's own, without press, too", x.worst(), NONE);
    }

    /** "that with the least LEAK": less by billionths is less. */
    private static void worstByHardlyAnything() {
        int[] less = {46, 97, 197, 112, 67, 189};
        int[] more = {155, 107, 88, 105, 162, 114};
        for (int first = 0; first < 2; first++) {
            BoltRing x = Check.ringOf(6, 9);
            Check.setAll(x, 0, 7, 9, 8, 4, 5, 7);
            Check.setAll(x, 1, 4, 2, 9, 1, 2, 7);
            Check.setAll(x, 2, 157, 162, 186, 143, 132, 146);
            x.newCase();
            x.newCase();
            for (int k = 0; k < 6; k++) {
                x.load(first, k, less[k]);
                x.load(1 - first, k, more[k]);
            }
            Fraction gap = Check.leak(x, 1 - first).less(Check.leak(x, first));
            C.holds(16, "hardly any gap", gap.compareTo(Fraction.of(0)) > 0
                    && gap.compareTo(Fraction.of(1).over(Fraction.of(200000000))) < 0);
            C.due(17, "worst()", x.worst(), first);
            Check.setAll(x, 3, less);
            C.due(17, "worst(), like the joint's own", x.worst(), NONE);
            Check.setAll(x, 3, more);
            C.due(17, "worst(), less than the joint's own", x.worst(), first);
        }
    }

    /** Each CASE, the first and the sixth among them, and the joint's own. */
    private static void worstOfEach() {
        for (int n = 3; n <= 6; n++) {
            for (int worst = NONE; worst < 6; worst++) {
                BoltRing x = drawn(n, 40);
                for (int i = 0; i < 6; i++) {
                    x.newCase();
                    x.load(i, i % n, i == worst ? 6 : 5);
                }
                x.set(n - 1, 3, worst == NONE ? 6 : 5);
                C.due(17, "worst()", x.worst(), worst);
            }
        }
    }

    /** "of like ones the first": like by their leaks, though the bolts differ. */
    private static void weakestOfLikeOnes() {
        BoltRing x = Check.ringOf(4, 1);
        Check.setAll(x, 0, 4, 1, 3, 2);
        Check.setAll(x, 1, 1, 1, 2, 2);
        Check.setAll(x, 2, 3, 16, 16, 12);
        C.due(18, "weakest()", x.weakest(), 1);
        int like = 0;
        for (int k = 0; k < 4; k++) {
            x.broken(k, true);
            C.holds(18, "no leak is less", Check.leak(x, NONE).compareTo(Fraction.of(13).over(Fraction.of(4))) >= 0);
            like += x.leak(NONE, 0) == 13 && x.leak(NONE, 1) == 4 ? 1 : 0;
            x.broken(k, false);
        }
        C.due(18, "two are like", like, 2);
        for (int n = 3; n <= 6; n++) {
            x = drawn(n, 16);
            C.due(18, "weakest() of all alike", x.weakest(), 0);
            x = Check.ringOf(n, 2);
            C.due(18, "weakest() without any press", x.weakest(), 0);
            x.broken(0, true);
            C.due(18, "weakest() without any press", x.weakest(), 1);
            x.broken(0, false);
            x.broken(1, true);
            C.due(18, "weakest() without any press", x.weakest(), 0);
        }
    }

    /** "of BOLTS that are not BROKEN that which, if it were BROKEN, too". */
    private static void weakestBesideBroken() {
        Random random = new Random(3);
        for (int run = 0; run < 200; run++) {
            int n = 3 + run % 4;
            BoltRing x = Check.ringOf(n, 1 + random.nextInt(9));
            for (int k = 0; k < n; k++) {
                x.set(k, 0, 1 + random.nextInt(9));
                x.set(k, 1, 1 + random.nextInt(9));
                x.set(k, 2, 20 + random.nextInt(60));
                x.set(k, 3, random.nextInt(3));
            }
            for (int k = 0; k < n - 2; k++) {
                x.broken(random.nextInt(n), true);
            }
            int weakest = NONE;
            Fraction least = null;
            String before = Check.state(x);
            int told = x.weakest();
            C.holds(18, "nothing is broken by it", before.equals(Check.state(x)));
            for (int k = 0; k < n; k++) {
                if (x.told(k, 4) == 1) {
                    continue;
                }
                x.broken(k, true);
                Fraction leak = Check.leak(x, NONE);
                x.broken(k, false);
                if (least == null || leak.compareTo(least) < 0) {
                    least = leak;
                    weakest = k;
                }
            }
            C.due(18, "weakest()", told, weakest);
        }
    }

    /** "none, if just one is not BROKEN"; of two there is one. */
    private static void weakestOfTwoAndOfOne() {
        for (int n = 3; n <= 6; n++) {
            for (int last = 0; last < n; last++) {
                int other = (last + 1) % n;
                BoltRing x = drawn(n, 16);
                for (int k = 0; k < n; k++) {
                    x.broken(k, k != last && k != other);
                }
                C.holds(18, "weakest() of two", x.weakest() == last || x.weakest() == other);
                x.set(last, 2, 0);
                x.set(other, 2, 0);
                C.due(18, "weakest() of two alike", x.weakest(), Math.min(last, other));
                x.set(last, 2, 60);
                C.due(18, "weakest() of two, one without turns", x.weakest(), last);
                x.broken(other, true);
                C.due(18, "weakest() of one", x.weakest(), NONE);
                C.due(18, "it stays whole", x.told(last, 4), 0);
            }
        }
    }

    /** "(by LOADS of the JOINT)": the cases do not count. */
    private static void weakestByTheJointsLoads() {
        for (int k = 0; k < 5; k++) {
            BoltRing x = drawn(5, 60);
            x.newCase();
            x.load(0, (k + 2) % 5, 200);
            x.set(k, 3, 40);
            C.due(18, "weakest()", x.weakest(), k);
        }
    }
}
