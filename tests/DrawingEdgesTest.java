import java.util.Random;

/** The sentences of section 2 and of promises 8 to 13, at their edges. */
public final class DrawingEdgesTest {
    private static final Check C = new Check();
    private static final int NONE = BoltRing.NONE, NOT = BoltRing.NOT, OUTSIDE = BoltRing.OUTSIDE;

    public static void main(String[] args) {
        pullOfJustT();
        pullOfHardlyT();
        leastTurnsNotBelow();
        twoHundredAtMost();
        twoHundredInManyRings();
        nineHundred();
        drawOfBroken();
        drawOfTheLastNotBroken();
        orderByNumbersAtFirst();
        everyOrderAndNoOther();
        refusedRowChangesNothing();
        passGoesByTheRow();
        passLeavesOutBroken();
        passByTheTwoHundredthTurn();
        passThatEndsKeepsItsTurns();
        passesOfNone();
        passesTillAllHaveJustT();
        passesNineteenToTwentyOne();
        passesThatEndLater();
        passesLeaveOutBroken();
        bestOfLikeOrdersIsTheFirst();
        bestFromTheTurnsAsTheyAre();
        bestOfJustTwentyPasses();
        bestWhereTheRowDoesNot();
        bestOfThreeToSix();
        bestWithBroken();
        evenByTheTwoHundredthTurn();
        evenFromNothingOn();
        evenIsLeastForEach();
        evenOfBrokenAsTheyAre();
        evenThoughPassesDoNot();
        evenOfTheLastNotBroken();
        C.end();
    }

    private static BoltRing ring(int rib, int[] stiffness, int[] pads, int[] loads) {
        BoltRing x = Check.ringOf(stiffness.length, rib);
        Check.setAll(x, 0, stiffness);
        Check.setAll(x, 1, pads);
        Check.setAll(x, 3, loads);
        return x;
    }

    private static BoltRing anyRing(Random random, int n) {
        BoltRing x = Check.ringOf(n, 1 + random.nextInt(9));
        for (int k = 0; k < n; k++) {
            x.set(k, 0, 1 + random.nextInt(9));
            x.set(k, 1, 1 + random.nextInt(9));
            x.set(k, 2, random.nextInt(40));
            x.set(k, 3, random.nextInt(3) == 0 ? random.nextInt(201) : 0);
        }
        return x;
    }

    private static int wholePull(BoltRing x, int k) {
        return (int) (x.force(k, 0, 0) / x.force(k, 0, 1));
    }

    /** "with which its PULL is T or more": T just, a little more than T, a little less. */
    private static void pullOfJustT() {
        for (int n = 3; n <= 6; n++) {
            BoltRing x = Check.ringOf(n, 2);
            Check.setAll(x, 2, 16, 16, 16, 16, 16, 16);
            for (int k = 0; k < n; k++) {
                C.due(8, "draw(" + k + ", 30) where it has just 30", x.draw(k, 30), 0);
                C.due(8, "draw(" + k + ", 29)", x.draw(k, 29), 0);
            }
            C.due(10, "pass(30) where all have just 30", x.pass(30), 0);
            C.due(8, "draw(n - 1, 31)", x.draw(n - 1, 31), 1);
            x.set(n - 1, 2, 16);
            // 15 / 8 of a turn, all alike: 30 less by a load's part of bolt 0's neighbour is not 30
            x.set(0, 2, 17);
            C.due(8, "draw(1, 30) where it has a little less", x.draw(1, 30), 1);
        }
    }

    /** "T or more": less than T by a millionth is too little, more by as much is enough. */
    private static void pullOfHardlyT() {
        BoltRing x = Check.hardlyAbove();
        C.due(8, "draw(2, 126)", x.draw(2, 126), 0);
        C.due(8, "draw(2, 127)", x.draw(2, 127), 1);
        x = Check.hardlyBelow();
        C.due(8, "draw(4, 21)", x.draw(4, 21), 0);
        C.due(8, "draw(4, 22)", x.draw(4, 22), 1);
        x = Check.hardlyBelow();
        for (int k = 0; k < 6; k++) {
            C.due(8, "draw of the others to 22", k == 4 ? 0 : x.draw(k, 22), 0);
        }
        C.due(11, "passes(21)", x.passes(21), 0);
        C.due(11, "passes(22) of just that one", x.passes(22), 1);
        C.due(11, "by one turn", x.told(4, 2), 39);
    }

    /** "the least, not below what they are": a bolt that has more keeps it, also where less would do. */
    private static void leastTurnsNotBelow() {
        BoltRing x = Check.ringOf(5, 3);
        x.set(2, 2, 120);
        C.due(8, "draw(2, 1)", x.draw(2, 1), 0);
        C.due(8, "told(2, 2)", x.told(2, 2), 120);
        C.holds(10, "pass(1) draws others", x.pass(1) > 0);
        C.due(10, "told(2, 2)", x.told(2, 2), 120);
        C.holds(11, "passes(2)", x.passes(2) > 0);
        C.due(11, "told(2, 2)", x.told(2, 2), 120);
        Random random = new Random(1);
        for (int run = 0; run < 300; run++) {
            int n = 3 + run % 4;
            x = anyRing(random, n);
            x.broken(0, run % 3 == 0);
            int k = n - 1;
            int t = 1 + random.nextInt(200);
            int was = x.told(k, 2);
            int drawn = x.draw(k, t);
            if (drawn == NOT) {
                C.due(8, "turns stay", x.told(k, 2), was);
                continue;
            }
            C.due(8, "by how many turns", x.told(k, 2), was + drawn);
            C.holds(8, "T or more", Check.hasPull(x, k, t));
            if (drawn > 0) {
                x.set(k, 2, was + drawn - 1);
                C.holds(8, "the least turns", !Check.hasPull(x, k, t));
            }
        }
    }

    /** "200 at most: if none does, it cannot be DRAWN": the pull of 200 turns, and one more. */
    private static void twoHundredAtMost() {
        BoltRing x = Check.ringOf(4, 2);
        Check.setAll(x, 2, 199, 200, 200, 200);
        C.due(8, "draw(0, 375) by the last turn", x.draw(0, 375), 1);
        C.due(8, "told(0, 2)", x.told(0, 2), 200);
        C.due(8, "draw(0, 375) at 200", x.draw(0, 375), 0);
        C.due(8, "draw(0, 376)", x.draw(0, 376), NOT);
        C.due(8, "told(0, 2)", x.told(0, 2), 200);
        x.set(0, 2, 0);
        C.due(8, "draw(0, 376) from none", x.draw(0, 376), NOT);
        C.due(8, "told(0, 2)", x.told(0, 2), 0);
        C.due(8, "draw(0, 375) from none", x.draw(0, 375), 200);
    }

    /** "200 at most": in rings of all kinds, to what 200 turns pull and to one more. */
    private static void twoHundredInManyRings() {
        Random random = new Random(2);
        int some = 0;
        for (int run = 0; run < 400; run++) {
            int n = 3 + run % 4;
            int k = random.nextInt(n);
            BoltRing x = anyRing(random, n);
            x.broken((k + 1) % n, run % 2 == 0);
            x.set(k, 2, 200);
            int most = wholePull(x, k);
            x.set(k, 2, 0);
            if (most < 1 || most > 899) {
                continue;
            }
            some++;
            C.due(8, "draw to more than 200 turns pull", x.draw(k, most + 1), NOT);
            C.due(8, "turns stay", x.told(k, 2), 0);
            int drawn = x.draw(k, most);
            C.holds(8, "draw to what 200 turns pull", drawn >= 0 && drawn <= 200);
            C.due(8, "told", x.told(k, 2), drawn);
            C.holds(8, "it has it", Check.hasPull(x, k, most));
        }
        C.holds(8, "some of the rings", some > 200);
    }

    /** "T (1 .. 900)": 900 just with 200 turns of the hardest bolts; 1 from nothing. */
    private static void nineHundred() {
        for (int n = 3; n <= 6; n++) {
            BoltRing x = Check.ringOf(n, 1);
            Check.setAll(x, 0, 9, 9, 9, 9, 9, 9);
            Check.setAll(x, 1, 9, 9, 9, 9, 9, 9);
            C.due(13, "even(900, -1)", x.even(900, NONE), 200 * n);
            C.holds(11, "passes(900)", x.passes(900) > 1);
            C.due(11, "count(4)", x.count(4), 200 * n);
            C.due(8, "draw(0, 900)", x.draw(0, 900), 0);
            C.due(10, "pass(900)", x.pass(900), 0);
            x = Check.ringOf(n, 2);
            C.due(8, "draw(0, 1)", x.draw(0, 1), 1);
            C.holds(10, "pass(1)", x.pass(1) >= n - 1);
            C.holds(13, "even(1, -1)", x.even(1, NONE) == n);
        }
    }

    /** "NOT: it is BROKEN, or cannot be": to any T, though it had the pull before it broke. */
    private static void drawOfBroken() {
        for (int n = 3; n <= 6; n++) {
            for (int k = 0; k < n; k++) {
                BoltRing x = Check.ringOf(n, 2);
                x.set(k, 2, 100);
                x.broken(k, true);
                C.due(8, "draw of a BROKEN one to 1", x.draw(k, 1), NOT);
                C.due(8, "draw of a BROKEN one to 900", x.draw(k, 900), NOT);
                C.due(8, "its turns stay", x.told(k, 2), 100);
                C.holds(8, "another can be", x.draw((k + 1) % n, 1) > 0);
                x.broken(k, false);
                C.due(8, "draw of it, mended", x.draw(k, 1), 0);
            }
        }
    }

    /** All bolts but one BROKEN: it bears all loads, and has them as pull without a turn. */
    private static void drawOfTheLastNotBroken() {
        for (int n = 3; n <= 6; n++) {
            for (int last = 0; last < n; last++) {
                BoltRing x = Check.ringOf(n, 9);
                for (int k = 0; k < n; k++) {
                    x.broken((last + 1 + k) % n, true);
                    x.set(k, 3, 20);
                }
                C.due(8, "draw to all the loads", x.draw(last, 20 * n), 0);
                C.due(8, "draw to one less", x.draw(last, 20 * n - 1), 0);
                C.holds(8, "draw to one more", x.draw(last, 20 * n + 1) > 0);
                int turns = x.told(last, 2);
                C.holds(8, "it has it", Check.hasPull(x, last, 20 * n + 1));
                x.set(last, 2, turns - 1);
                C.holds(8, "and not with one less", !Check.hasPull(x, last, 20 * n + 1));
                C.due(10, "pass", x.pass(20 * n + 1), 1);
                C.due(11, "passes", x.passes(20 * n + 1), 0);
                C.due(13, "even", x.even(20 * n + 1, last), turns);
                C.due(13, "even to all the loads", x.even(20 * n, last), 0);
            }
        }
    }

    /** "THE ROW: an order of all BOLTS (by numbers at first)". */
    private static void orderByNumbersAtFirst() {
        for (int n = 3; n <= 6; n++) {
            BoltRing x = Check.ringOf(n, 2);
            BoltRing y = Check.ringOf(n, 2);
            for (int k = 0; k < n; k++) {
                C.due(5, "its place at first", x.told(k, 7), k);
                y.draw(k, 50);
            }
            x.pass(50);
            for (int k = 0; k < n; k++) {
                C.due(10, "told(" + k + ", 2)", x.told(k, 2), y.told(k, 2));
            }
        }
    }

    private static boolean isOrder(int figures, int n) {
        String text = "" + figures;
        text = text.length() == n - 1 ? "0" + text : text;
        boolean all = text.length() == n;
        for (int k = 0; k < n; k++) {
            all &= text.indexOf('0' + k) >= 0;
        }
        return all;
    }

    /** "told as a number of n figures, the first BOLT first (BOLT 0 may lead): 1. OUTSIDE: it is none". */
    private static void everyOrderAndNoOther() {
        int[] all = {6, 24, 120, 720};
        for (int n = 3; n <= 6; n++) {
            BoltRing x = Check.ringOf(n, 2);
            int taken = 0;
            int calls = 0;
            int most = n == 6 ? 1000000 : 10 * Check.backward(n);
            for (int figures = -20; figures < most; figures++) {
                boolean is = isOrder(figures, n);
                // of the many numbers that are none, those near an order and some others
                if (!is && figures % 97 != 0 && !isOrder(figures - 1, n) && !isOrder(figures / 10, n) && figures > 200) {
                    continue;
                }
                if (++calls % 400 == 0) {
                    x = Check.ringOf(n, 2);
                }
                C.due(9, "row(" + figures + ") of " + n, x.row(figures), is ? 1 : OUTSIDE);
                taken += is ? 1 : 0;
            }
            C.due(9, "all orders", taken, all[n - 3]);
            for (int figures : new int[] {-1, -12, -210, Integer.MIN_VALUE, Integer.MAX_VALUE, 2143650, 1000000000}) {
                C.due(9, "row(" + figures + ")", x.row(figures), OUTSIDE);
            }
            C.due(9, "the last order", x.row(Check.backward(n)), 1);
            for (int k = 0; k < n; k++) {
                C.due(9, "its place", x.told(k, 7), n - 1 - k);
            }
        }
    }

    /** "What is refused changes nothing": a number that is no order leaves every place as it was. */
    private static void refusedRowChangesNothing() {
        int[][] none = {{211, 12345, 1, 0, 213, 21, 1023}, {3211, 3, 0, 123450, 3214, 2341, 321},
            {43211, 3210, 0, 543210, 43215, 54321, 12345}, {543211, 43210, 0, 6543210, 543216, 654321, 123456}};
        for (int n = 3; n <= 6; n++) {
            int count = n;
            for (int figures : none[n - 3]) {
                if (!isOrder(figures, n)) {
                    Twins.refused(C, 9, "row(" + figures + ") of " + n, () -> Twins.rich(count), x -> x.row(figures), OUTSIDE);
                    Twins.refused(C, 9, "row(" + figures + ") of " + n, () -> Twins.faulty(count), x -> x.row(figures), OUTSIDE);
                }
            }
        }
    }

    /** "each BOLT of THE ROW .. is DRAWN to T, one after the other": by every order of four. */
    private static void passGoesByTheRow() {
        for (int figures = 123; figures <= 3210; figures++) {
            if (!isOrder(figures, 4)) {
                continue;
            }
            BoltRing x = Check.ringOf(4, 5);
            BoltRing y = Check.ringOf(4, 5);
            x.row(figures);
            int drawn = 0;
            for (int ways = 1000; ways > 0; ways /= 10) {
                drawn += y.draw(figures / ways % 10, 90);
            }
            C.due(10, "pass(90) by " + figures, x.pass(90), drawn);
            for (int k = 0; k < 4; k++) {
                C.due(10, "told(" + k + ", 2) by " + figures, x.told(k, 2), y.told(k, 2));
            }
            C.due(10, "the row stays", x.told(figures % 10, 7), 3);
        }
    }

    /** "that is not BROKEN": one that is first, within or last in the row, and all but one. */
    private static void passLeavesOutBroken() {
        for (int n = 3; n <= 6; n++) {
            for (int k = 0; k < n; k++) {
                BoltRing x = Check.ringOf(n, 4);
                BoltRing y = Check.ringOf(n, 4);
                x.broken(k, true);
                y.broken(k, true);
                int drawn = 0;
                for (int i = 0; i < n; i++) {
                    drawn += i == k ? 0 : y.draw(i, 40);
                }
                C.due(10, "pass(40) of all but " + k, x.pass(40), drawn);
                C.due(10, "a BROKEN one is not drawn", x.told(k, 2), 0);
                C.due(10, "the last of the others", x.told(n - 1, 2), y.told(n - 1, 2));
                for (int i = 0; i < n; i++) {
                    if (i != k && x.count(1) < n - 1) {
                        x.broken(i, true);
                        y.broken(i, true);
                    }
                }
                int left = k == n - 1 ? n - 2 : n - 1;
                C.due(10, "pass(60) of one", x.pass(60), y.draw(left, 60));
            }
        }
    }

    /** A pass whose last bolt needs just 200 turns does not end; one turn more, and it ends. */
    private static void passByTheTwoHundredthTurn() {
        for (int k = 0; k < 4; k++) {
            for (int more = 0; more < 2; more++) {
                BoltRing x = Check.ringOf(4, 2);
                Check.setAll(x, 2, 200, 200, 200, 200);
                x.set(k, 2, 50);
                C.due(10, "pass to what 200 turns pull, and one more", x.pass(375 + more), more == 0 ? 150 : NOT);
                C.due(10, "told(k, 2)", x.told(k, 2), more == 0 ? 200 : 50);
            }
            BoltRing x = Check.ringOf(4, 2);
            Check.setAll(x, 2, 200, 200, 200, 200);
            x.set(k, 2, 50);
            C.due(11, "passes(376)", x.passes(376), NOT);
            C.due(11, "told(k, 2)", x.told(k, 2), 50);
            C.due(11, "passes(375)", x.passes(375), 1);
            C.due(11, "told(k, 2)", x.told(k, 2), 200);
        }
    }

    /** "NOT: it ended (the TURNS till then are drawn)": ended by each place of the row. */
    private static void passThatEndsKeepsItsTurns() {
        for (int place = 0; place < 5; place++) {
            BoltRing x = Check.ringOf(5, 2);
            BoltRing y = Check.ringOf(5, 2);
            x.row(31420);
            int[] order = {3, 1, 4, 2, 0};
            x.set(order[place], 0, 1);
            y.set(order[place], 0, 1);
            for (int i = 0; i < place; i++) {
                C.holds(8, "it can be drawn", y.draw(order[i], 199) > 0);
            }
            C.due(8, "it cannot be drawn", y.draw(order[place], 199), NOT);
            C.due(10, "pass(199) ends", x.pass(199), NOT);
            for (int k = 0; k < 5; k++) {
                C.due(10, "the turns till then", x.told(k, 2), y.told(k, 2));
            }
        }
    }

    /** "till all BOLTS that are not BROKEN have T or more": where they have, none is needed. */
    private static void passesOfNone() {
        for (int n = 3; n <= 6; n++) {
            BoltRing x = Check.ringOf(n, 2);
            Check.setAll(x, 2, 8, 8, 8, 8, 8, 8);
            C.due(11, "passes(15) where all have just 15", x.passes(15), 0);
            C.due(11, "count(4)", x.count(4), 8 * n);
            C.due(11, "passes(16)", x.passes(16) > 0 ? 1 : 0, 1);
            C.holds(11, "count(4)", x.count(4) > 8 * n);
        }
    }

    /** "PASS after PASS, till all BOLTS that are not BROKEN have T or more": against passes told one by one. */
    private static void passesTillAllHaveJustT() {
        Random random = new Random(3);
        for (int run = 0; run < 200; run++) {
            int n = 3 + run % 4;
            long seed = random.nextLong();
            int t = 1 + random.nextInt(150);
            BoltRing x = anyRing(new Random(seed), n);
            BoltRing y = anyRing(new Random(seed), n);
            int rounds = 0;
            boolean ended = false;
            while (!ended && rounds < 20 && !Check.allHave(y, t)) {
                ended = y.pass(t) == NOT;
                rounds++;
            }
            boolean all = !ended && Check.allHave(y, t);
            int before = x.count(4);
            C.due(11, "passes(" + t + ")", x.passes(t), all ? rounds : NOT);
            C.due(11, "count(4)", x.count(4), all ? y.count(4) : before);
        }
    }

    private static int passesByHand(BoltRing x, int t) {
        int rounds = 0;
        while (rounds < 30 && !Check.allHave(x, t)) {
            x.pass(t);
            rounds++;
        }
        return rounds;
    }

    /** "(20 at most)", "NOT: twenty do not do": rings that need 19, 20 and 21. */
    private static void passesNineteenToTwentyOne() {
        int[][][] rings = {
            {{9}, {3, 3, 3}, {1, 1, 1}, {125, 195, 0}, {107}},
            {{5}, {3, 3, 3}, {1, 1, 1}, {196, 74, 0}, {90}},
            {{7}, {2, 1, 4, 3, 3}, {1, 2, 2, 1, 1}, {137, 131, 121, 73, 0}, {92}},
            {{9}, {2, 2, 3}, {2, 1, 2}, {26, 141, 200}, {123}}};
        int[] need = {20, 21, 20, 0};
        for (int i = 0; i < rings.length; i++) {
            int[][] r = rings[i];
            int t = r[4][0];
            BoltRing y = ring(r[0][0], r[1], r[2], r[3]);
            int rounds = passesByHand(y, t);
            C.holds(11, "it needs as many", need[i] == 0 ? rounds > 20 : rounds == need[i]);
            BoltRing x = ring(r[0][0], r[1], r[2], r[3]);
            C.due(11, "passes(" + t + ")", x.passes(t), rounds <= 20 ? rounds : NOT);
            C.due(11, "count(4)", x.count(4), rounds <= 20 ? y.count(4) : 0);
            for (int ahead = 1; ahead < 3; ahead++) {
                x = ring(r[0][0], r[1], r[2], r[3]);
                for (int pass = 0; pass < ahead; pass++) {
                    x.pass(t);
                }
                C.due(11, "passes(" + t + ") behind " + ahead, x.passes(t), rounds - ahead <= 20 ? rounds - ahead : NOT);
            }
        }
    }

    /** "or one ended (TURNS are as ahead of all)": the third pass ends, the first two had drawn. */
    private static void passesThatEndLater() {
        int[][] values = {{8, 2, 8, 7}, {7, 1, 1, 1}, {0, 175, 0, 0}};
        BoltRing x = ring(1, values[0], values[1], values[2]);
        C.holds(10, "the first pass", x.pass(233) > 0);
        C.holds(10, "the second pass", x.pass(233) > 0);
        C.due(10, "the third pass ends", x.pass(233), NOT);
        x = ring(1, values[0], values[1], values[2]);
        Check.setAll(x, 2, 3, 2, 1, 0);
        C.due(11, "passes(233)", x.passes(233), NOT);
        for (int k = 0; k < 4; k++) {
            C.due(11, "told(" + k + ", 2)", x.told(k, 2), 3 - k);
        }
        Twins.refused(C, 11, "passes(233)", () -> ring(1, values[0], values[1], values[2]), y -> y.passes(233), NOT);
        Twins.refused(C, 11, "passes(90), 21 of them",
                () -> ring(5, new int[] {3, 3, 3}, new int[] {1, 1, 1}, new int[] {196, 74, 0}), y -> y.passes(90), NOT);
    }

    /** "that are not BROKEN": one that is neither is drawn nor holds them up. */
    private static void passesLeaveOutBroken() {
        for (int n = 3; n <= 6; n++) {
            for (int k = 0; k < n; k++) {
                BoltRing x = Check.ringOf(n, 3);
                x.broken(k, true);
                BoltRing y = Check.ringOf(n, 3);
                y.broken(k, true);
                C.due(11, "passes(50)", x.passes(50), passesByHand(y, 50));
                C.due(11, "count(4)", x.count(4), y.count(4));
                C.due(11, "a BROKEN one has no turns", x.told(k, 2), 0);
                C.due(11, "nor pull, and all others have it", x.passes(50), 0);
            }
        }
    }

    /** "of these the first (by BOLTS, one after the other)", whatever THE ROW is. */
    private static void bestOfLikeOrdersIsTheFirst() {
        int[] first = {12, 123, 1234};
        for (int n = 3; n <= 5; n++) {
            BoltRing x = Check.ringOf(n, 2);
            Check.setAll(x, 2, 8, 8, 8, 8, 8);
            x.row(Check.backward(n));
            C.due(12, "best(15, 0) where all have just 15", x.best(15, 0), first[n - 3]);
            C.due(12, "best(15, 1)", x.best(15, 1), 0);
            C.due(12, "best(15, 2)", x.best(15, 2), 0);
            C.due(12, "THE ROW stays", x.told(0, 7), n - 1);
            C.due(12, "nothing is drawn", x.count(4), 8 * n);
        }
    }

    private static int[] bestByHand(int n, long seed, int t, int brokenBolt) {
        int[] best = null;
        for (int figures = 0; figures <= Check.backward(n); figures++) {
            if (!isOrder(figures, n)) {
                continue;
            }
            BoltRing y = anyRing(new Random(seed), n);
            y.broken(brokenBolt, brokenBolt >= 0);
            int before = y.count(4);
            y.row(figures);
            int rounds = y.passes(t);
            int drawn = y.count(4) - before;
            if (rounds >= 0 && (best == null || rounds < best[1] || rounds == best[1] && drawn < best[2])) {
                best = new int[] {figures, rounds, drawn};
            }
        }
        return best;
    }

    /** "of all orders that with the fewest PASSES, from the TURNS as they are". */
    private static void bestFromTheTurnsAsTheyAre() {
        Random random = new Random(4);
        int late = 0;
        for (int run = 0; run < 300; run++) {
            int n = 3 + run % 3;
            long seed = random.nextLong();
            int t = 10 + random.nextInt(150);
            int brokenBolt = run % 2 == 0 ? -1 : random.nextInt(n);
            int[] best = bestByHand(n, seed, t, brokenBolt);
            BoltRing x = anyRing(new Random(seed), n);
            x.broken(brokenBolt, true);
            x.row(Check.backward(n));
            int before = x.count(4);
            for (int what = 0; what < 3; what++) {
                C.due(12, "best(" + t + ", " + what + ")", x.best(t, what), best == null ? NOT : best[what]);
            }
            C.due(12, "nothing is drawn", x.count(4), before);
            C.due(12, "THE ROW stays", x.told(0, 7), n - 1);
            late += best != null && best[0] > Check.backward(n) / 3 ? 1 : 0;
        }
        C.holds(12, "some are late orders", late > 3);
    }

    /** The fewest passes are just 20 where others do not do; and 21, so that no order does. */
    private static void bestOfJustTwentyPasses() {
        BoltRing x = ring(8, new int[] {4, 3, 1}, new int[] {2, 2, 2}, new int[] {181, 64, 32});
        C.due(12, "best(92, 0)", x.best(92, 0), 120);
        C.due(12, "best(92, 1)", x.best(92, 1), 20);
        C.due(11, "passes(92) by numbers", x.passes(92), NOT);
        int drawn = x.best(92, 2);
        x.row(120);
        C.due(11, "passes(92) by the best row", x.passes(92), 20);
        C.due(12, "best(92, 2)", drawn, x.count(4));
        x = ring(9, new int[] {2, 2, 3}, new int[] {2, 1, 2}, new int[] {26, 141, 200});
        int even = x.even(123, NONE);
        C.holds(13, "there is a row of turns", even > 0);
        for (int what = 0; what < 3; what++) {
            C.due(12, "best(123, " + what + "): 21 passes are too many", x.best(123, what), NOT);
        }
        int least = 99;
        for (int figures : new int[] {12, 21, 102, 120, 201, 210}) {
            BoltRing y = ring(9, new int[] {2, 2, 3}, new int[] {2, 1, 2}, new int[] {26, 141, 200});
            y.row(figures);
            least = Math.min(least, passesByHand(y, 123));
            C.due(13, "by every order to even", y.count(4), even);
        }
        C.due(12, "21 would do", least, 21);
        x.row(21);
        x.pass(123);
        C.holds(12, "behind a pass there is one", x.best(123, 1) > 0);
    }

    /** "of all orders that with the fewest PASSES": where THE ROW itself does not do in twenty. */
    private static void bestWhereTheRowDoesNot() {
        BoltRing x = ring(9, new int[] {2, 1, 2, 4}, new int[] {1, 1, 1, 1}, new int[] {158, 0, 97, 136});
        C.due(11, "passes(98) by numbers", x.passes(98), NOT);
        C.due(12, "best(98, 0)", x.best(98, 0), 1032);
        C.due(12, "best(98, 1)", x.best(98, 1), 14);
        x.row(1032);
        C.due(11, "passes(98) by the best row", x.passes(98), 14);
    }

    /** "LARGE: six BOLTS": five are not too many. */
    private static void bestOfThreeToSix() {
        for (int n = 3; n <= 6; n++) {
            BoltRing x = Check.ringOf(n, 2);
            for (int what = 0; what < 3; what++) {
                C.due(12, "best(30, " + what + ") of " + n, x.best(30, what) == BoltRing.LARGE ? 1 : 0, n == 6 ? 1 : 0);
            }
        }
        BoltRing x = Check.ringOf(6, 2);
        Check.setAll(x, 2, 8, 8, 8, 8, 8, 8);
        C.due(12, "best(15, 0) of six that have 15", x.best(15, 0), BoltRing.LARGE);
        for (int k = 1; k < 6; k++) {
            x.broken(k, true);
        }
        C.due(12, "best(15, 0) of six, one not BROKEN", x.best(15, 0), BoltRing.LARGE);
    }

    /** A BROKEN bolt stands in the orders, too, and is first in the first of like ones. */
    private static void bestWithBroken() {
        for (int n = 3; n <= 5; n++) {
            BoltRing x = Check.ringOf(n, 2);
            for (int k = 0; k < n - 1; k++) {
                x.broken(k, true);
            }
            C.due(12, "best(20, 0), just the last not BROKEN", x.best(20, 0), n == 3 ? 12 : n == 4 ? 123 : 1234);
            C.due(12, "best(20, 1)", x.best(20, 1), 1);
            C.due(12, "best(20, 2)", x.best(20, 2), x.draw(n - 1, 20));
        }
    }

    /** "there is a row least for each, or none up to 200": just 200, and one T more. */
    private static void evenByTheTwoHundredthTurn() {
        for (int n = 3; n <= 6; n++) {
            BoltRing x = Check.ringOf(n, 2);
            C.due(13, "even(375, -1)", x.even(375, NONE), 200 * n);
            for (int k = 0; k < n; k++) {
                C.due(13, "even(375, k)", x.even(375, k), 200);
                C.due(13, "even(376, k)", x.even(376, k), NOT);
            }
            C.due(13, "even(376, -1)", x.even(376, NONE), NOT);
            C.due(13, "turns stay", x.count(4), 0);
            C.due(13, "even(374, -1), 199.5 turns", x.even(374, NONE), 200 * n);
            C.due(13, "even(373, -1)", x.even(373, 0), 199);
        }
    }

    /** "from 0 on": turns that are there already do not count, though they be 200. */
    private static void evenFromNothingOn() {
        for (int n = 3; n <= 6; n++) {
            BoltRing x = Check.ringOf(n, 2);
            Check.setAll(x, 2, 200, 7, 199);
            C.due(13, "even(15, -1)", x.even(15, NONE), 8 * n);
            for (int k = 0; k < n; k++) {
                C.due(13, "even(15, k)", x.even(15, k), 8);
                C.due(13, "turns stay", x.told(k, 2), k == 0 ? 200 : k == 1 ? 7 : k == 2 ? 199 : 0);
            }
            Check.setAll(x, 3, 40, 40, 40, 40, 40, 40);
            C.due(13, "even(40, -1) of loads of 40 each", x.even(40, NONE), 0);
            C.due(13, "even(39, 0)", x.even(39, 0), 0);
            C.holds(13, "even(41, -1)", x.even(41, NONE) > 0);
        }
    }

    /** "the least TURNS of each BOLT": no bolt can have one less, whatever the others have. */
    private static void evenIsLeastForEach() {
        Random random = new Random(5);
        int some = 0;
        for (int run = 0; run < 120; run++) {
            int n = 3 + run % 4;
            BoltRing x = anyRing(random, n);
            x.broken(run % n, run % 3 == 0);
            int t = 1 + random.nextInt(120);
            if (x.even(t, NONE) == NOT) {
                continue;
            }
            some++;
            int sum = 0;
            int[] even = new int[n];
            for (int k = 0; k < n; k++) {
                even[k] = x.even(t, k);
                sum += even[k];
            }
            C.due(13, "all together", x.even(t, NONE), sum);
            Check.setAll(x, 2, even);
            C.holds(13, "all have T or more", Check.allHave(x, t));
            for (int k = 0; k < n; k++) {
                if (x.told(k, 4) == 0 && even[k] > 0) {
                    x.set(k, 2, even[k] - 1);
                    C.holds(13, "one less is too little for it", !Check.hasPull(x, k, t));
                    x.set(k, 2, even[k]);
                }
            }
        }
        C.holds(13, "some of the rings", some > 60);
    }

    /** "(BROKEN ones as they are)". */
    private static void evenOfBrokenAsTheyAre() {
        for (int n = 3; n <= 6; n++) {
            for (int k = 0; k < n; k++) {
                BoltRing x = Check.ringOf(n, 2);
                x.broken(k, true);
                int without = x.even(25, NONE);
                C.due(13, "even(25, k) of a BROKEN one", x.even(25, k), 0);
                x.set(k, 2, 200);
                C.due(13, "even(25, k) of a BROKEN one", x.even(25, k), 200);
                C.due(13, "even(25, -1)", x.even(25, NONE), without + 200);
                C.due(13, "its turns stay", x.told(k, 2), 200);
            }
        }
    }

    /** "none up to 200" is the only end: a row that passes would reach by 277, far more than twenty. */
    private static void evenThoughPassesDoNot() {
        int[][] values = {{1, 1, 1, 1}, {6, 7, 4, 6}, {11, 116, 172, 110}};
        BoltRing x = ring(7, values[0], values[1], values[2]);
        C.due(11, "passes(102)", x.passes(102), NOT);
        C.due(12, "best(102, 0)", x.best(102, 0), NOT);
        BoltRing y = ring(7, values[0], values[1], values[2]);
        int rounds = 0;
        while (rounds < 400 && y.pass(102) > 0) {
            rounds++;
        }
        C.due(10, "pass(102) draws so often", rounds, 277);
        C.due(13, "even(102, -1)", x.even(102, NONE), y.count(4));
        for (int k = 0; k < 4; k++) {
            C.due(13, "even(102, " + k + ")", x.even(102, k), y.told(k, 2));
        }
    }

    /** All bolts but one BROKEN: EVEN is what drawing that one from no turns comes to. */
    private static void evenOfTheLastNotBroken() {
        for (int n = 3; n <= 6; n++) {
            for (int last = 0; last < n; last++) {
                BoltRing x = Check.ringOf(n, 2);
                for (int k = 1; k < n; k++) {
                    x.broken((last + k) % n, true);
                }
                int even = x.even(40, last);
                C.due(13, "even(40, -1)", x.even(40, NONE), even);
                C.due(13, "even(40, other)", x.even(40, (last + 1) % n), 0);
                C.due(8, "draw(last, 40)", x.draw(last, 40), even);
                C.due(13, "even(900, last)", x.even(900, last), x.draw(last, 900) == NOT ? NOT : x.told(last, 2));
            }
        }
    }
}
