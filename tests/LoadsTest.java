/** Promises 14 to 18: loads. */
public final class LoadsTest {
    private static final Check C = new Check();
    private static final int UNKNOWN = BoltRing.UNKNOWN, OUTSIDE = BoltRing.OUTSIDE;

    public static void main(String[] args) {
        cases();
        loadsOfCases();
        leakByHand();
        leakOfCaseIsThatOfTheJoint();
        leakRefused();
        worstCase();
        worstOfLike();
        weakestBolt();
        weakestAmongBroken();
        C.end();
    }

    private static void cases() {
        BoltRing x = Check.ringOf(4, 2);
        for (int i = 0; i < 6; i++) {
            C.due(14, "newCase()", x.newCase(), i);
            C.due(14, "count(5)", x.count(5), i + 1);
            for (int k = 0; k < 4; k++) {
                C.due(14, "a new case's load", x.load(i, k, 9 + k), 0);
            }
        }
        C.due(14, "newCase(), the seventh", x.newCase(), BoltRing.FULL);
        C.due(14, "count(5)", x.count(5), 6);
        C.due(14, "the last case stays", x.load(5, 3, 0), 12);
        x.joint(4, 2);
        C.due(14, "newCase() anew", x.newCase(), 0);
        C.due(14, "its load", x.load(0, 0, 0), 0);
        x.set(1, 3, 100);
        x.newCase();
        C.due(14, "a new case has no load of the joint", x.load(1, 1, 0), 0);
    }

    private static void loadsOfCases() {
        BoltRing x = Check.ringOf(5, 2);
        x.newCase();
        x.newCase();
        C.due(15, "load(0, 2, 60)", x.load(0, 2, 60), 0);
        C.due(15, "load(0, 2, 200)", x.load(0, 2, 200), 60);
        C.due(15, "load(1, 2, 0)", x.load(1, 2, 0), 0);
        C.due(15, "load(0, 3, 0)", x.load(0, 3, 0), 0);
        C.due(15, "the joint's load stays", x.told(2, 3), 0);
        C.due(15, "load(2, 0, 0)", x.load(2, 0, 0), UNKNOWN);
        C.due(15, "load(-1, 0, 0)", x.load(-1, 0, 0), UNKNOWN);
        C.due(15, "load(0, 5, 0)", x.load(0, 5, 0), UNKNOWN);
        C.due(15, "load(0, -1, 999)", x.load(0, -1, 999), UNKNOWN);
        C.due(15, "load(6, 0, 999)", x.load(6, 0, 999), UNKNOWN);
        C.due(15, "load(0, 0, 201)", x.load(0, 0, 201), OUTSIDE);
        C.due(15, "load(0, 0, -1)", x.load(0, 0, -1), OUTSIDE);
        C.due(15, "what is refused changes nothing", x.load(0, 0, 5), 0);
        C.due(15, "load(0, 2, 1)", x.load(0, 2, 1), 200);
    }

    private static void leak(BoltRing x, int i, long upper, long lower, int place) {
        C.due(16, "leak(" + i + ", 0)", x.leak(i, 0), upper);
        C.due(16, "leak(" + i + ", 1)", x.leak(i, 1), lower);
        C.due(16, "leak(" + i + ", 2)", x.leak(i, 2), place);
    }

    private static void leakByHand() {
        BoltRing x = Check.ringOf(3, 1);
        leak(x, -1, 0, 1, 0);
        x.set(0, 2, 10);
        leak(x, -1, 75, 19, 1);
        x.set(0, 2, 0);
        x.set(1, 2, 10);
        leak(x, -1, 75, 19, 0);
        x.set(2, 1, 2);
        C.due(16, "the softer pad presses least", x.leak(-1, 2), 2);
        x = Check.ringOf(4, 2);
        Check.setAll(x, 2, 8, 8, 8, 8);
        leak(x, -1, 15, 1, 0);
        x.newCase();
        leak(x, 0, 15, 1, 0);
        x.load(0, 2, 200);
        leak(x, 0, 0, 1, 2);
        leak(x, -1, 15, 1, 0);
        x.broken(3, true);
        C.due(16, "a broken one may leak", x.leak(-1, 2), 3);
    }

    private static void leakOfCaseIsThatOfTheJoint() {
        int[][] loads = {{60, 0, 0, 0, 0}, {0, 0, 31, 7, 0}, {5, 5, 5, 5, 9}};
        BoltRing x = Check.ringOf(5, 4);
        BoltRing y = Check.ringOf(5, 4);
        Check.setAll(x, 2, 20, 22, 24, 20, 23);
        Check.setAll(y, 2, 20, 22, 24, 20, 23);
        x.set(4, 3, 150);
        for (int i = 0; i < 3; i++) {
            x.newCase();
            for (int k = 0; k < 5; k++) {
                x.load(i, k, loads[i][k]);
                y.set(k, 3, loads[i][k]);
            }
            int place = 0;
            for (int k = 1; k < 5; k++) {
                double here = y.force(k, 1, 0) / (double) y.force(k, 1, 1);
                place = here < y.force(place, 1, 0) / (double) y.force(place, 1, 1) ? k : place;
            }
            leak(x, i, y.force(place, 1, 0), y.force(place, 1, 1), place);
        }
    }

    private static void leakRefused() {
        BoltRing x = Check.ringOf(5, 4);
        C.due(16, "leak(0, 0)", x.leak(0, 0), UNKNOWN);
        x.newCase();
        C.due(16, "leak(1, 7)", x.leak(1, 7), UNKNOWN);
        C.due(16, "leak(-2, 0)", x.leak(-2, 0), UNKNOWN);
        C.due(16, "leak(0, 3)", x.leak(0, 3), OUTSIDE);
        C.due(16, "leak(-1, -1)", x.leak(-1, -1), OUTSIDE);
    }

    private static BoltRing drawn() {
        BoltRing x = Check.ringOf(5, 3);
        Check.setAll(x, 2, 30, 31, 29, 30, 30);
        return x;
    }

    private static void worstCase() {
        BoltRing x = drawn();
        C.due(17, "worst() without cases", x.worst(), -1);
        x.newCase();
        x.newCase();
        x.newCase();
        x.load(0, 2, 20);
        x.load(1, 2, 40);
        x.load(2, 2, 30);
        C.due(17, "worst()", x.worst(), 1);
        x.load(2, 2, 41);
        C.due(17, "worst()", x.worst(), 2);
        x.set(2, 3, 42);
        C.due(17, "worst() by the joint's own", x.worst(), -1);
        x.set(2, 3, 0);
        x.load(0, 4, 60);
        C.due(17, "worst()", x.worst(), 0);
        String before = Check.state(x);
        x.worst();
        C.holds(17, "worst() changes nothing", before.equals(Check.state(x)) && x.load(1, 2, 40) == 40);
    }

    private static void worstOfLike() {
        BoltRing x = drawn();
        x.newCase();
        x.newCase();
        C.due(17, "worst() of like ones", x.worst(), -1);
        for (int k = 0; k < 5; k++) {
            x.load(0, k, 199);
            x.load(1, k, 200);
        }
        C.due(17, "worst() of like ones, all pads open", x.worst(), 0);
        Check.setAll(x, 3, 150, 150, 150, 150, 150);
        C.due(17, "worst() of like ones, the joint's own open, too", x.worst(), -1);
        Check.setAll(x, 3, 0, 0, 0, 0, 0);
        for (int k = 0; k < 5; k++) {
            x.load(0, k, 0);
        }
        C.due(17, "worst()", x.worst(), 1);
    }

    private static void weakestBolt() {
        BoltRing x = drawn();
        int weakest = -1;
        double least = 0;
        for (int k = 0; k < 5; k++) {
            BoltRing y = drawn();
            y.broken(k, true);
            double leak = y.leak(-1, 0) / (double) y.leak(-1, 1);
            if (weakest == -1 || leak < least) {
                weakest = k;
                least = leak;
            }
        }
        C.due(18, "weakest()", x.weakest(), weakest);
        C.due(18, "nothing is broken", x.count(1), 0);
        x = Check.ringOf(4, 2);
        C.due(18, "weakest() of like ones", x.weakest(), 0);
        Check.setAll(x, 2, 20, 20, 20, 20);
        C.due(18, "weakest() of like ones", x.weakest(), 0);
        x.set(2, 3, 30);
        C.due(18, "weakest() by the joint's loads", x.weakest(), 2);
        x.newCase();
        x.load(0, 1, 200);
        C.due(18, "weakest() not by a case", x.weakest(), 2);
    }

    private static void weakestAmongBroken() {
        BoltRing x = Check.ringOf(6, 2);
        Check.setAll(x, 2, 20, 20, 20, 20, 20, 20);
        x.broken(0, true);
        C.holds(18, "weakest() beside a broken one", x.weakest() > 0);
        C.due(18, "what was broken stays so", x.told(0, 4), 1);
        x.broken(1, true);
        x.broken(2, true);
        x.broken(4, true);
        C.holds(18, "weakest() of two", x.weakest() == 3 || x.weakest() == 5);
        x.broken(3, true);
        C.due(18, "weakest() of one", x.weakest(), -1);
        C.due(18, "count(1)", x.count(1), 5);
    }
}
