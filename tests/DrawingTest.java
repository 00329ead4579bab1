import java.util.Arrays;

/** Promises 8 to 13: drawing. */
public final class DrawingTest {
    private static final Check C = new Check();
    private static final int UNKNOWN = BoltRing.UNKNOWN, OUTSIDE = BoltRing.OUTSIDE, NOT = BoltRing.NOT;

    public static void main(String[] args) {
        drawByHand();
        drawLeast();
        drawLeastInManyRings();
        drawBoltAlone();
        drawRefused();
        rows();
        passIsDraws();
        passThatEnds();
        passRefused();
        passesAreCounted();
        passesAtTwenty();
        passesRefused();
        bestOfAllRows();
        bestOfManyRings();
        bestOfLikeRows();
        bestRefused();
        evenIsLeast();
        evenWithBroken();
        evenRefused();
        C.end();
    }

    private static BoltRing mixed(int n, int rib) {
        BoltRing x = Check.ringOf(n, rib);
        for (int k = 0; k < n; k++) {
            x.set(k, 0, 1 + 7 * (k + 1) % 9);
            x.set(k, 1, 1 + 5 * (k + rib) % 9);
        }
        x.set(1, 3, 30);
        return x;
    }

    /** Bolt 0 alone with turns in three, rib 1, pulls 45 / 19 of its turns. */
    private static void drawByHand() {
        BoltRing x = Check.ringOf(3, 1);
        C.due(8, "draw(0, 45)", x.draw(0, 45), 19);
        C.due(8, "told(0, 2)", x.told(0, 2), 19);
        C.due(8, "draw(0, 45) again", x.draw(0, 45), 0);
        C.due(8, "draw(0, 1), less than it has", x.draw(0, 1), 0);
        C.due(8, "told(0, 2)", x.told(0, 2), 19);
        C.due(8, "draw(0, 46)", x.draw(0, 46), 1);
        C.due(8, "draw(0, 474), 201 turns", x.draw(0, 474), NOT);
        C.due(8, "told(0, 2)", x.told(0, 2), 20);
        C.due(8, "draw(0, 473), 200 turns", x.draw(0, 473), 180);
        C.due(8, "told(1, 2)", x.told(1, 2), 0);
    }

    private static void drawLeast() {
        for (int n = 3; n <= 6; n++) {
            BoltRing x = mixed(n, n);
            x.broken(n - 1, true);
            for (int t = 5; t < 160; t += 31) {
                for (int k = 0; k < n - 1; k++) {
                    int was = x.told(k, 2);
                    boolean had = Check.hasPull(x, k, t);
                    int drawn = x.draw(k, t);
                    C.due(8, "turns drawn to " + t, x.told(k, 2), was + drawn);
                    C.holds(8, "it has " + t, Check.hasPull(x, k, t));
                    C.holds(8, "nothing is drawn where it had " + t, had == (drawn == 0));
                    if (drawn > 0) {
                        x.set(k, 2, was + drawn - 1);
                        C.holds(8, "one turn less is not enough for " + t, !Check.hasPull(x, k, t));
                        x.set(k, 2, was + drawn);
                    }
                }
            }
        }
    }

    /** A bolt that is alone pulls as much as all loads, pads open, and more only with pads that press. */
    private static void drawBoltAlone() {
        BoltRing x = Check.ringOf(3, 2);
        x.broken(1, true);
        x.broken(2, true);
        Check.setAll(x, 3, 100, 100, 100);
        C.due(8, "draw(0, 1)", x.draw(0, 1), 0);
        C.due(8, "draw(0, 300)", x.draw(0, 300), 0);
        C.due(8, "draw(0, 301)", x.draw(0, 301), 61);
        C.due(8, "draw(0, 315)", x.draw(0, 315), 7);
        C.due(8, "told(0, 2)", x.told(0, 2), 68);
    }

    /** So many rings that some need just a little more than a whole number of turns. */
    private static void drawLeastInManyRings() {
        for (int ring = 0; ring < 20000; ring++) {
            BoltRing x = ringAsItComes(3, ring);
            int t = 1 + ring * 31 % 300;
            if (x.draw(1, t) > 0) {
                C.holds(8, "it has " + t, Check.hasPull(x, 1, t));
                x.set(1, 2, x.told(1, 2) - 1);
                C.holds(8, "one turn less is not enough for " + t + ", ring " + ring, !Check.hasPull(x, 1, t));
            }
        }
    }

    private static void drawRefused() {
        BoltRing x = Check.ringOf(4, 2);
        C.due(8, "draw(4, 1)", x.draw(4, 1), UNKNOWN);
        C.due(8, "draw(-1, 0)", x.draw(-1, 0), UNKNOWN);
        C.due(8, "draw(0, 0)", x.draw(0, 0), OUTSIDE);
        C.due(8, "draw(0, 901)", x.draw(0, 901), OUTSIDE);
        C.due(8, "draw(0, 900)", x.draw(0, 900), NOT);
        x.broken(2, true);
        C.due(8, "draw(2, 1) of a broken one", x.draw(2, 1), NOT);
        C.due(8, "draw(2, 0)", x.draw(2, 0), OUTSIDE);
        C.due(8, "nothing is drawn", x.count(4), 0);
        x = Check.ringOf(3, 1);
        Check.setAll(x, 0, 9, 9, 9);
        Check.setAll(x, 1, 9, 9, 9);
        Check.setAll(x, 2, 200, 200, 200);
        C.due(8, "draw(0, 900) where it has just 900", x.draw(0, 900), 0);
        x.set(0, 2, 199);
        C.due(8, "draw(0, 900) by the last turn", x.draw(0, 900), 1);
    }

    private static void rows() {
        BoltRing x = Check.ringOf(4, 2);
        C.due(9, "row(231)", x.row(231), 1);
        int[] places = {0, 3, 1, 2};
        for (int k = 0; k < 4; k++) {
            C.due(9, "told(" + k + ", 7)", x.told(k, 7), places[k]);
        }
        int[] none = {3211, 32, 0, 1123, 4321, 32100, 13210, 23, -123, -3210, -1, 1239, 9999, 124,
            Integer.MAX_VALUE, Integer.MIN_VALUE};
        for (int figures : none) {
            C.due(9, "row(" + figures + ")", x.row(figures), OUTSIDE);
        }
        C.due(9, "a refused row changes nothing", x.told(1, 7), 3);
        C.due(9, "row(3210)", x.row(3210), 1);
        C.due(9, "told(0, 7)", x.told(0, 7), 3);
        C.due(9, "row(3210), the same", x.row(3210), 1);
        x.joint(6, 1);
        C.due(9, "row(543210)", x.row(543210), 1);
        C.due(9, "row(12345)", x.row(12345), 1);
        C.due(9, "row(43210)", x.row(43210), OUTSIDE);
        x.joint(3, 1);
        C.due(9, "row(21)", x.row(21), 1);
        C.due(9, "told(2, 7)", x.told(2, 7), 1);
    }

    private static void passIsDraws() {
        int[] orders = {1234, 43210, 30214};
        for (int figures : orders) {
            BoltRing x = mixed(5, 4);
            BoltRing y = mixed(5, 4);
            x.broken(1, true);
            y.broken(1, true);
            x.row(figures);
            int drawn = 0;
            for (int place = 0; place < 5; place++) {
                int k = figures / new int[] {10000, 1000, 100, 10, 1}[place] % 10;
                drawn += k == 1 ? 0 : y.draw(k, 70);
            }
            C.due(10, "pass(70)", x.pass(70), drawn);
            for (int k = 0; k < 5; k++) {
                C.due(10, "told(" + k + ", 2)", x.told(k, 2), y.told(k, 2));
            }
        }
        BoltRing x = Check.ringOf(3, 2);
        Check.setAll(x, 2, 8, 8, 8);
        C.due(10, "pass(15) where all have 15", x.pass(15), 0);
        C.holds(10, "pass(16)", x.pass(16) > 0);
    }

    /** Bolt 2 is too soft to reach 199 beside a drawn one. */
    private static void passThatEnds() {
        BoltRing x = Check.ringOf(4, 2);
        x.set(2, 0, 1);
        x.row(3201);
        BoltRing y = Check.ringOf(4, 2);
        y.set(2, 0, 1);
        int first = y.draw(3, 199);
        C.due(10, "draw(2, 199)", y.draw(2, 199), NOT);
        C.due(10, "pass(199) ends", x.pass(199), NOT);
        C.due(10, "the turns till then are drawn", x.told(3, 2), first);
        C.due(10, "and no others", x.count(4), first);
        x.broken(2, true);
        C.holds(10, "a broken one does not end it", x.pass(199) > 0);
    }

    private static void passRefused() {
        BoltRing x = Check.ringOf(4, 2);
        C.due(10, "pass(0)", x.pass(0), OUTSIDE);
        C.due(10, "pass(901)", x.pass(901), OUTSIDE);
        C.due(10, "pass(-5)", x.pass(-5), OUTSIDE);
        C.due(10, "pass(900)", x.pass(900), NOT);
        C.due(10, "nothing is drawn", x.count(4), 0);
        C.holds(10, "pass(1)", x.pass(1) > 0 && x.count(4) > 0);
    }

    private static void passesAreCounted() {
        for (int n = 3; n <= 6; n++) {
            BoltRing x = mixed(n, 9);
            BoltRing y = mixed(n, 9);
            x.broken(0, true);
            y.broken(0, true);
            int rounds = 0;
            while (!Check.allHave(y, 40)) {
                y.pass(40);
                rounds++;
            }
            C.holds(11, "there are some", rounds > 1);
            C.due(11, "passes(40)", x.passes(40), rounds);
            for (int k = 0; k < n; k++) {
                C.due(11, "told(" + k + ", 2)", x.told(k, 2), y.told(k, 2));
            }
            C.due(11, "passes(40) where all have 40", x.passes(40), 0);
            C.due(11, "passes(1) where all have 40", x.passes(1), 0);
        }
        BoltRing x = Check.ringOf(4, 2);
        Check.setAll(x, 2, 8, 8, 8, 8);
        C.due(11, "passes(15) where all have just 15", x.passes(15), 0);
        C.due(11, "count(4)", x.count(4), 32);
        BoltRing y = mixed(5, 9);
        y.row(30214);
        BoltRing z = mixed(5, 9);
        C.holds(11, "the row counts", y.passes(60) != z.passes(60) || !Check.state(y).equals(Check.state(z)));
    }

    private static BoltRing slowRing() {
        BoltRing x = Check.ringOf(3, 9);
        Check.setAll(x, 0, 3, 3, 3);
        Check.setAll(x, 1, 1, 1, 1);
        Check.setAll(x, 3, 125, 195, 0);
        return x;
    }

    private static void passesAtTwenty() {
        BoltRing x = slowRing();
        BoltRing y = slowRing();
        for (int i = 0; i < 19; i++) {
            y.pass(107);
        }
        C.holds(11, "nineteen do not do", !Check.allHave(y, 107));
        y.pass(107);
        C.holds(11, "twenty do", Check.allHave(y, 107));
        C.due(11, "passes(107)", x.passes(107), 20);
        C.due(11, "count(4)", x.count(4), y.count(4));
        x = Check.ringOf(4, 8);
        Check.setAll(x, 0, 2, 2, 2, 2);
        Check.setAll(x, 1, 1, 1, 1, 1);
        x.set(3, 3, 189);
        x.broken(0, true);
        x.broken(1, true);
        x.set(2, 2, 1);
        C.due(11, "even(95, -1)", x.even(95, -1), 91);
        C.due(11, "passes(95): twenty do not do", x.passes(95), NOT);
        C.due(11, "turns are as ahead of all", x.told(2, 2), 1);
        C.due(11, "turns are as ahead of all", x.count(4), 1);
        C.due(12, "best(95, 0): no order does", x.best(95, 0), NOT);
        x = Check.ringOf(3, 5);
        Check.setAll(x, 0, 3, 3, 3);
        Check.setAll(x, 1, 1, 1, 1);
        Check.setAll(x, 3, 196, 74, 0);
        C.due(11, "passes(90), which would take 21", x.passes(90), NOT);
        for (int i = 0; i < 20; i++) {
            x.pass(90);
        }
        C.holds(11, "twenty do not do", !Check.allHave(x, 90));
        x.pass(90);
        C.holds(11, "one more does", Check.allHave(x, 90));
    }

    private static void passesRefused() {
        BoltRing x = Check.ringOf(4, 2);
        x.set(2, 0, 1);
        x.row(3201);
        x.set(0, 2, 3);
        C.due(11, "passes(199) ends", x.passes(199), NOT);
        C.due(11, "turns are as ahead of all", x.count(4), 3);
        C.due(11, "told(3, 2)", x.told(3, 2), 0);
        C.due(11, "passes(0)", x.passes(0), OUTSIDE);
        C.due(11, "passes(901)", x.passes(901), OUTSIDE);
        C.due(11, "count(4)", x.count(4), 3);
    }

    private static void bestOfAllRows() {
        for (int n = 3; n <= 5; n++) {
            for (int t = 25; t < 120; t += 40) {
                int[] best = null;
                for (int figures = 0; figures < 43211; figures++) {
                    if (Check.ringOf(n, 2).row(figures) != 1) {
                        continue;
                    }
                    BoltRing y = mixed(n, 7);
                    y.set(1, 2, 9);
                    y.row(figures);
                    int rounds = y.passes(t);
                    if (rounds >= 0 && (best == null || rounds < best[1])) {
                        best = new int[] {figures, rounds, y.count(4) - 9};
                    }
                }
                BoltRing x = mixed(n, 7);
                x.set(1, 2, 9);
                x.row(n == 3 ? 210 : n == 4 ? 3210 : 43210);
                String before = Check.state(x);
                for (int what = 0; what < 3; what++) {
                    C.due(12, "best(" + t + ", " + what + ") of " + n, x.best(t, what), best == null ? NOT : best[what]);
                }
                C.holds(12, "nothing is drawn", before.equals(Check.state(x)));
            }
        }
    }

    /** The n bolts in the order of the numbers of `code`, a number below n!, as figures. */
    private static int orderOf(int n, int code) {
        StringBuilder left = new StringBuilder("01234".substring(0, n));
        int figures = 0;
        int rest = code;
        for (int k = n; k > 0; k--) {
            int ways = k == 5 ? 24 : k == 4 ? 6 : k == 3 ? 2 : 1;
            figures = 10 * figures + left.charAt(rest / ways) - '0';
            left.deleteCharAt(rest / ways);
            rest %= ways;
        }
        return figures;
    }

    /** Rings as they come, each with the turns left by others, against all orders tried one by one. */
    private static void bestOfManyRings() {
        int late = 0;
        for (int ring = 1; ring <= 600; ring++) {
            int n = 3 + ring % 3;
            int t = 20 + ring * 37 % 130;
            int all = n == 3 ? 6 : n == 4 ? 24 : 120;
            int[] best = null;
            for (int code = 0; code < all; code++) {
                BoltRing y = ringAsItComes(n, ring);
                int before = y.count(4);
                y.row(orderOf(n, code));
                int rounds = y.passes(t);
                if (rounds >= 0 && (best == null || rounds < best[1])) {
                    best = new int[] {orderOf(n, code), rounds, y.count(4) - before};
                    late = Math.max(late, 720 * code / all);
                }
            }
            BoltRing x = ringAsItComes(n, ring);
            for (int what = 0; what < 3; what++) {
                C.due(12, "best(" + t + ", " + what + ") of ring " + ring, x.best(t, what), best == null ? NOT : best[what]);
            }
        }
        C.holds(12, "some best rows come late", late > 500);
    }

    private static BoltRing ringAsItComes(int n, int ring) {
        BoltRing x = Check.ringOf(n, 1 + ring * 5 % 9);
        int number = ring * 7919;
        for (int k = 0; k < n; k++) {
            number = number * 1103515245 + 12345;
            int bits = number >>> 8;
            x.set(k, 0, 1 + bits % 9);
            x.set(k, 1, 1 + bits / 9 % 9);
            x.set(k, 2, bits / 81 % 50);
            x.set(k, 3, bits / 4050 % 4 == 0 ? bits / 16200 % 200 : 0);
        }
        return x;
    }

    private static void bestOfLikeRows() {
        BoltRing x = Check.ringOf(4, 2);
        Check.setAll(x, 2, 8, 8, 8, 8);
        x.row(3210);
        C.due(12, "best(15, 0) where all have 15", x.best(15, 0), 123);
        C.due(12, "best(15, 1)", x.best(15, 1), 0);
        C.due(12, "best(15, 2)", x.best(15, 2), 0);
        x = Check.ringOf(4, 2);
        x.broken(0, true);
        x.broken(2, true);
        x.broken(3, true);
        C.due(12, "best(20, 0) of one bolt", x.best(20, 0), 123);
        C.due(12, "best(20, 1)", x.best(20, 1), 1);
        int drawn = x.best(20, 2);
        C.due(12, "best(20, 2)", drawn, x.draw(1, 20));
    }

    private static void bestRefused() {
        BoltRing x = Check.ringOf(4, 2);
        C.due(12, "best(0, 0)", x.best(0, 0), OUTSIDE);
        C.due(12, "best(901, 0)", x.best(901, 0), OUTSIDE);
        C.due(12, "best(1, 3)", x.best(1, 3), OUTSIDE);
        C.due(12, "best(1, -1)", x.best(1, -1), OUTSIDE);
        C.due(12, "best(900, 1)", x.best(900, 1), NOT);
        C.due(12, "count(4)", x.count(4), 0);
        x.joint(6, 2);
        C.due(12, "best(1, 0) of six", x.best(1, 0), BoltRing.LARGE);
        C.due(12, "best(900, 0) of six, LARGE ahead of NOT", x.best(900, 0), BoltRing.LARGE);
        C.due(12, "best(0, 0) of six", x.best(0, 0), OUTSIDE);
        C.due(12, "best(1, 3) of six", x.best(1, 3), OUTSIDE);
    }

    /** A new ring for each turn, as an object is good for 512 calls. */
    private static int[] leastByTurningOn(int n, int t) {
        int[] turns = new int[n];
        for (boolean more = true; more;) {
            BoltRing y = mixed(n, 6);
            Check.setAll(y, 2, turns);
            more = false;
            for (int k = 0; k < n; k++) {
                if (!Check.hasPull(y, k, t)) {
                    turns[k]++;
                    more = true;
                }
            }
        }
        return turns;
    }

    /** The least row is reached by turning on by one whoever has too little. */
    private static void evenIsLeast() {
        for (int n = 3; n <= 6; n++) {
            BoltRing x = mixed(n, 6);
            Check.setAll(x, 2, 100, 3, 50);
            String before = Check.state(x);
            int[] even = leastByTurningOn(n, 33);
            C.due(13, "even(33, -1)", x.even(33, -1), Arrays.stream(even).sum());
            for (int k = 0; k < n; k++) {
                C.due(13, "even(33, " + k + ")", x.even(33, k), even[k]);
            }
            C.holds(13, "nothing is drawn", before.equals(Check.state(x)));
        }
        BoltRing x = Check.ringOf(4, 2);
        C.due(13, "even(375, -1), 200 turns each", x.even(375, -1), 800);
        C.due(13, "even(376, -1)", x.even(376, -1), NOT);
        C.due(13, "even(15, 2)", x.even(15, 2), 8);
        C.holds(13, "even(1, -1)", x.even(1, -1) > 0);
        x.set(0, 3, 200);
        C.due(13, "even(9, 0) of a loaded bolt", x.even(9, 0), 0);
    }

    private static void evenWithBroken() {
        BoltRing x = Check.ringOf(5, 3);
        x.broken(2, true);
        x.set(2, 2, 77);
        BoltRing y = Check.ringOf(5, 3);
        y.broken(2, true);
        C.due(13, "even(40, 2), as it is", x.even(40, 2), 77);
        C.due(13, "even(40, -1)", x.even(40, -1), 77 + y.even(40, -1));
        C.holds(13, "even(40, 1)", x.even(40, 1) > 0 && x.even(40, 1) == x.even(40, 3));
        C.holds(13, "even(40, 0)", x.even(40, 0) == y.even(40, 0));
    }

    private static void evenRefused() {
        BoltRing x = Check.ringOf(4, 2);
        x.set(0, 2, 6);
        C.due(13, "even(1, 4)", x.even(1, 4), UNKNOWN);
        C.due(13, "even(0, -2)", x.even(0, -2), UNKNOWN);
        C.due(13, "even(0, 0)", x.even(0, 0), OUTSIDE);
        C.due(13, "even(901, -1)", x.even(901, -1), OUTSIDE);
        C.due(13, "even(900, 0)", x.even(900, 0), NOT);
        C.due(13, "turns stay", x.count(4), 6);
        C.due(13, "told(0, 2)", x.told(0, 2), 6);
    }
}
