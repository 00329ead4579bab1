/** Promises 1 to 7: the joint. */
public final class JointTest {
    private static final Check C = new Check();
    private static final int UNKNOWN = BoltRing.UNKNOWN, OUTSIDE = BoltRing.OUTSIDE, NOT = BoltRing.NOT;

    public static void main(String[] args) {
        constants();
        newObject();
        newJoint();
        jointBounds();
        setting();
        setBounds();
        breaking();
        telling();
        forcesByHand();
        forcesWithOpenPad();
        forcesOfBoltAlone();
        forceBounds();
        forcesBalance();
        counting();
        C.end();
    }

    private static void constants() {
        C.due(1, "NONE", BoltRing.NONE, -1);
        C.due(1, "UNKNOWN", UNKNOWN, -100001);
        C.due(1, "OUTSIDE", OUTSIDE, -100002);
        C.due(1, "NOT", NOT, -100003);
        C.due(1, "FULL", BoltRing.FULL, -100004);
        C.due(1, "LARGE", BoltRing.LARGE, -100005);
    }

    private static void asAtFirst(int promise, BoltRing x, int n) {
        C.due(promise, "count(0)", x.count(0), n);
        int[] first = {5, 3, 0, 0, 0, 1, 1};
        for (int k = 0; k < n; k++) {
            for (int what = 0; what < 7; what++) {
                C.due(promise, "told(" + k + ", " + what + ")", x.told(k, what), first[what]);
            }
            C.due(promise, "told(" + k + ", 7)", x.told(k, 7), k);
        }
        C.due(promise, "told(n, 0)", x.told(n, 0), UNKNOWN);
        int[] counts = {n, 0, n, n, 0, 0, 0};
        for (int what = 0; what < 7; what++) {
            C.due(promise, "count(" + what + ")", x.count(what), counts[what]);
        }
        // with turns of 8 each all pull just 15: bolt 0 must be one more (1 of 4), all others as they are (2 of 4)
        for (int k = 0; k < n; k++) {
            x.set(k, 2, 8);
        }
        x.set(0, 2, 7);
        C.due(promise, "chance of 1, 2, 1: its lower number", x.chance(15, 15, 1), 2L << n);
        C.due(promise, "chance of 1, 2, 1: its upper number", x.chance(15, 15, 0), 1);
    }

    private static void newObject() {
        BoltRing x = new BoltRing();
        C.due(1, "count(7)", x.count(7), 0);
        C.due(1, "count(8)", x.count(8), 0);
        C.due(1, "fault()", x.fault(), -1);
        asAtFirst(1, x, 4);
        x = new BoltRing();
        x.set(0, 2, 10);
        BoltRing same = Check.ringOf(4, 2);
        same.set(0, 2, 10);
        C.due(1, "rib 2", x.force(0, 2, 0), same.force(0, 2, 0));
        C.due(1, "rib 2", x.force(0, 2, 0), 1025);
    }

    private static void newJoint() {
        for (int n = 3; n <= 6; n++) {
            BoltRing x = Check.ringOf(6, 9);
            for (int k = 0; k < 6; k++) {
                Check.setAll(x, k % 4, 9, 9, 9, 9, 9, 9);
            }
            x.broken(1, true);
            x.row(543210);
            x.weights(3, 0, 4);
            x.newCase();
            x.load(0, 0, 77);
            x.reading(0, 1, 2);
            x.feed(3, 0x203b20);
            C.due(2, "joint(n, 3)", x.joint(n, 3), n);
            C.due(2, "the text stays", x.count(7), 3);
            C.due(2, "fit()", x.fit(), 1);
            C.due(2, "load(0, 0, 0)", x.load(0, 0, 0), UNKNOWN);
            asAtFirst(2, x, n);
            C.due(2, "newCase()", x.newCase(), 0);
            C.due(2, "the new case's load", x.load(0, 0, 1), 0);
        }
    }

    private static void jointBounds() {
        BoltRing x = Check.ringOf(5, 9);
        x.set(0, 2, 10);
        long lift = x.force(0, 2, 0);
        String before = Check.state(x);
        int[][] outside = {{2, 1}, {7, 1}, {4, 0}, {4, 10}, {-1, 5}, {Integer.MIN_VALUE, 1}, {3, Integer.MAX_VALUE}};
        for (int[] o : outside) {
            C.due(2, "joint(" + o[0] + ", " + o[1] + ")", x.joint(o[0], o[1]), OUTSIDE);
        }
        C.holds(2, "a refused joint changes nothing", before.equals(Check.state(x)) && lift == x.force(0, 2, 0));
        C.due(2, "joint(3, 1)", x.joint(3, 1), 3);
        C.due(2, "joint(6, 9)", x.joint(6, 9), 6);
    }

    private static void setting() {
        BoltRing x = Check.ringOf(3, 1);
        int[] first = {5, 3, 0, 0};
        int[] next = {7, 8, 120, 99};
        for (int what = 0; what < 4; what++) {
            C.due(3, "set(1, " + what + ", v)", x.set(1, what, next[what]), first[what]);
            C.due(3, "told(1, " + what + ")", x.told(1, what), next[what]);
            C.due(3, "told(0, " + what + ")", x.told(0, what), first[what]);
            C.due(3, "set(1, " + what + ", v) again", x.set(1, what, next[what]), next[what]);
        }
        x.broken(2, true);
        C.due(3, "set of a broken one", x.set(2, 2, 50), 0);
        C.due(3, "set of a broken one", x.told(2, 2), 50);
    }

    private static void setBounds() {
        BoltRing x = Check.ringOf(5, 2);
        String before = Check.state(x);
        C.due(3, "set(5, 0, 1)", x.set(5, 0, 1), UNKNOWN);
        C.due(3, "set(-1, 0, 1)", x.set(-1, 0, 1), UNKNOWN);
        C.due(3, "set(5, 9, 1000), UNKNOWN ahead of OUTSIDE", x.set(5, 9, 1000), UNKNOWN);
        C.due(3, "set(0, 4, 1)", x.set(0, 4, 1), OUTSIDE);
        C.due(3, "set(0, -1, 1)", x.set(0, -1, 1), OUTSIDE);
        int[][] outside = {{0, 0}, {0, 10}, {1, 0}, {1, 10}, {2, -1}, {2, 201}, {3, -1}, {3, 201}};
        for (int[] o : outside) {
            C.due(3, "set(0, " + o[0] + ", " + o[1] + ")", x.set(0, o[0], o[1]), OUTSIDE);
        }
        C.holds(3, "what is refused changes nothing", before.equals(Check.state(x)));
        int[][] edges = {{0, 1}, {0, 9}, {1, 1}, {1, 9}, {2, 200}, {2, 0}, {3, 200}, {3, 0}};
        for (int[] e : edges) {
            C.holds(3, "set(4, " + e[0] + ", " + e[1] + ") is taken", x.set(4, e[0], e[1]) >= 0);
            C.due(3, "told(4, " + e[0] + ")", x.told(4, e[0]), e[1]);
        }
    }

    private static void breaking() {
        BoltRing x = Check.ringOf(3, 2);
        Check.setAll(x, 2, 8, 8, 8);
        C.due(4, "broken(0, false)", x.broken(0, false), 0);
        C.due(4, "broken(0, true)", x.broken(0, true), 0);
        C.due(4, "told(0, 4)", x.told(0, 4), 1);
        C.due(4, "the pull of a broken one", x.force(0, 0, 0), 0);
        C.due(4, "turns stay", x.told(0, 2), 8);
        C.due(4, "broken(0, true) again", x.broken(0, true), 1);
        C.due(4, "broken(1, true)", x.broken(1, true), 0);
        C.due(4, "broken(2, true): all would be", x.broken(2, true), NOT);
        C.due(4, "told(2, 4)", x.told(2, 4), 0);
        C.due(4, "broken(1, true) again", x.broken(1, true), 1);
        C.due(4, "broken(2, false)", x.broken(2, false), 0);
        C.due(4, "broken(0, false)", x.broken(0, false), 1);
        C.due(4, "told(0, 4)", x.told(0, 4), 0);
        C.due(4, "broken(2, true)", x.broken(2, true), 0);
        C.due(4, "broken(3, true)", x.broken(3, true), UNKNOWN);
        C.due(4, "broken(-1, false)", x.broken(-1, false), UNKNOWN);
        x = Check.ringOf(3, 2);
        Check.setAll(x, 2, 8, 8, 8);
        x.broken(0, true);
        x.broken(0, false);
        C.due(4, "the pull of a mended one", x.force(0, 0, 0), 15);
    }

    private static void telling() {
        BoltRing x = Check.ringOf(5, 2);
        x.set(3, 0, 4);
        x.set(3, 1, 6);
        x.set(3, 2, 40);
        x.set(3, 3, 17);
        x.row(31420);
        x.broken(4, true);
        int[] want = {4, 6, 40, 17, 0, 0, 0, 0};
        for (int what = 0; what < 8; what++) {
            C.due(5, "told(3, " + what + ")", x.told(3, what), want[what]);
        }
        int[] places = {4, 1, 3, 0, 2};
        for (int k = 0; k < 5; k++) {
            C.due(5, "told(" + k + ", 7)", x.told(k, 7), places[k]);
        }
        C.due(5, "a broken one is slack", x.told(4, 5), 1);
        C.due(5, "told(4, 4)", x.told(4, 4), 1);
        C.due(5, "a pad lifted beside a drawn bolt is not open", x.told(2, 6), 0);
        C.due(5, "a bolt lifted above its turns is slack", x.told(2, 5), 1);
        C.due(5, "told(5, 0)", x.told(5, 0), UNKNOWN);
        C.due(5, "told(-1, 99)", x.told(-1, 99), UNKNOWN);
        C.due(5, "told(0, 8)", x.told(0, 8), OUTSIDE);
        C.due(5, "told(0, -1)", x.told(0, -1), OUTSIDE);
        x = Check.ringOf(3, 1);
        x.set(0, 3, 14);
        C.due(5, "a loaded pad is open", x.told(0, 6), 1);
        C.due(5, "a loaded bolt pulls without turns", x.told(0, 5), 0);
        x.set(0, 3, 0);
        C.due(5, "told(0, 5) right after a change", x.told(0, 5), 1);
        x.set(0, 2, 8);
        C.due(5, "told(0, 6) right after a change", x.told(0, 6), 0);
    }

    private static void fraction(BoltRing x, int k, int force, long upper, long lower) {
        C.due(6, "force(" + k + ", " + force + ", 0)", x.force(k, force, 0), upper);
        C.due(6, "force(" + k + ", " + force + ", 1)", x.force(k, force, 1), lower);
    }

    /** One bolt drawn by 10, rib 1: 5 (10 - z) = 3 z + 2 z - 2 y and 0 = 3 y + y - z. */
    private static void forcesByHand() {
        BoltRing x = Check.ringOf(3, 1);
        fraction(x, 0, 0, 0, 1);
        fraction(x, 0, 1, 0, 1);
        fraction(x, 0, 2, 0, 1);
        x.set(0, 2, 10);
        fraction(x, 0, 0, 450, 19);
        fraction(x, 0, 1, 300, 19);
        fraction(x, 0, 2, 100, 19);
        fraction(x, 1, 0, 0, 1);
        fraction(x, 2, 1, 75, 19);
        fraction(x, 1, 2, 25, 19);
        x.set(0, 2, 19);
        fraction(x, 0, 0, 45, 1);
        fraction(x, 0, 2, 10, 1);
        // just bolt 0 is slack: 3 x + 2 x = 2 y and 5 (43 - y) = 3 y + y - x
        Check.setAll(x, 2, 0, 43, 43);
        fraction(x, 0, 2, 10, 1);
        fraction(x, 0, 0, 0, 1);
        fraction(x, 1, 2, 25, 1);
        fraction(x, 2, 0, 90, 1);
        fraction(x, 1, 1, 75, 1);
    }

    /** A load of 14 on one bolt without turns: -5 z = 2 z - 2 y + 14 and -5 y = y - z. */
    private static void forcesWithOpenPad() {
        BoltRing x = Check.ringOf(3, 1);
        x.set(0, 3, 14);
        fraction(x, 0, 2, -21, 10);
        fraction(x, 0, 1, 0, 1);
        fraction(x, 0, 0, 21, 2);
        fraction(x, 1, 2, -7, 20);
        fraction(x, 2, 0, 7, 4);
    }

    /** Two of three broken, 100 of load on each: the third bears all, all pads open. */
    private static void forcesOfBoltAlone() {
        BoltRing x = Check.ringOf(3, 2);
        x.broken(1, true);
        x.broken(2, true);
        Check.setAll(x, 3, 100, 100, 100);
        fraction(x, 0, 0, 300, 1);
        fraction(x, 0, 2, -60, 1);
        fraction(x, 1, 2, -110, 1);
        fraction(x, 1, 0, 0, 1);
        C.due(6, "all pads are open", x.count(3), 3);
        x.set(0, 2, 60);
        fraction(x, 0, 2, 0, 1);
        fraction(x, 2, 2, -50, 1);
        fraction(x, 0, 0, 300, 1);
        x.set(0, 2, 68);
        fraction(x, 0, 2, 5, 1);
        fraction(x, 0, 1, 15, 1);
        fraction(x, 0, 0, 315, 1);
    }

    private static void forceBounds() {
        BoltRing x = Check.ringOf(5, 2);
        C.due(6, "force(5, 0, 0)", x.force(5, 0, 0), UNKNOWN);
        C.due(6, "force(-1, 7, 7)", x.force(-1, 7, 7), UNKNOWN);
        C.due(6, "force(0, 3, 0)", x.force(0, 3, 0), OUTSIDE);
        C.due(6, "force(0, -1, 0)", x.force(0, -1, 0), OUTSIDE);
        C.due(6, "force(0, 0, 2)", x.force(0, 0, 2), OUTSIDE);
        C.due(6, "force(0, 0, -1)", x.force(0, 0, -1), OUTSIDE);
    }

    /** In the largest joint, drawn most unevenly, the forces are as the lifts have them and balance. */
    private static void forcesBalance() {
        BoltRing x = Check.ringOf(6, 9);
        Check.setAll(x, 0, 9, 8, 9, 7, 9, 9);
        Check.setAll(x, 1, 9, 9, 1, 9, 8, 9);
        Check.setAll(x, 2, 200, 0, 199, 7, 200, 143);
        Check.setAll(x, 3, 0, 200, 1, 0, 177, 200);
        int n = 6;
        for (int k = 0; k < n; k++) {
            long u = x.force(k, 2, 0);
            long l = x.force(k, 2, 1);
            long pull = Math.max(0, x.told(k, 0) * (x.told(k, 2) * l - u));
            C.due(6, "pull by lift", x.force(k, 0, 0) * l, pull * x.force(k, 0, 1));
            C.due(6, "press by lift", x.force(k, 1, 0) * l, Math.max(0, x.told(k, 1) * u) * x.force(k, 1, 1));
            double bend = 2.0 * u / l - lift(x, (k + 1) % n) - lift(x, (k + n - 1) % n);
            double rest = x.force(k, 0, 0) / (double) x.force(k, 0, 1) - x.force(k, 1, 0) / (double) x.force(k, 1, 1)
                    - 9 * bend - x.told(k, 3);
            C.holds(6, "the forces of bolt " + k + " balance", Math.abs(rest) < 1e-6);
        }
    }

    private static double lift(BoltRing x, int k) {
        return x.force(k, 2, 0) / (double) x.force(k, 2, 1);
    }

    private static void counting() {
        BoltRing x = Check.ringOf(5, 2);
        Check.setAll(x, 2, 40, 0, 30, 1, 7);
        x.set(4, 3, 200);
        x.broken(2, true);
        x.newCase();
        x.newCase();
        x.reading(0, 0, 1);
        x.reading(3, 0, 1);
        x.reading(3, 0, 2);
        x.feed(5, 0);
        int slack = 0;
        int open = 0;
        for (int k = 0; k < 5; k++) {
            slack += x.told(k, 5);
            open += x.told(k, 6);
        }
        C.holds(7, "some are slack, some are not", slack > 0 && slack < 5);
        C.holds(7, "some are open, some are not", open > 0 && open < 5);
        int[] want = {5, 1, slack, open, 78, 2, 2, 5, 0};
        for (int what = 0; what < 9; what++) {
            C.due(7, "count(" + what + ")", x.count(what), want[what]);
        }
        x.read();
        x.feed(1, ';');
        x.feed(1, ' ');
        C.due(7, "count(7)", x.count(7), 2);
        C.due(7, "count(9)", x.count(9), OUTSIDE);
        C.due(7, "count(-1)", x.count(-1), OUTSIDE);
        x.read();
        C.due(7, "count(7) after read()", x.count(7), 0);
        C.due(7, "count(8) with a fault", x.count(8), 0);
        x = Check.ringOf(3, 1);
        x.set(0, 2, 10);
        C.due(7, "count(2)", x.count(2), 2);
        C.due(7, "force(0, 2, 0)", x.force(0, 2, 0), 100);
        Check.setAll(x, 2, 1, 1, 1);
        C.due(7, "count(2) right after a change", x.count(2), 0);
        Check.setAll(x, 2, 0, 0, 0);
        C.due(7, "count(3) right after a change", x.count(3), 3);
    }
}
