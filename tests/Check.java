import java.math.BigInteger;

/** Counts and prints the answers that are not as due, by promise. */
final class Check {
    private int wrong;

    void due(int promise, String call, long got, long want) {
        if (got != want) {
            wrong++;
            System.out.println("promise " + promise + ": " + call + " answered " + got + ", due is " + want);
        }
    }

    void holds(int promise, String what, boolean is) {
        due(promise, what, is ? 1 : 0, 1);
    }

    /** All that told() and count() say, so that two states can be held against one another. */
    static String state(BoltRing x) {
        StringBuilder all = new StringBuilder();
        for (int k = 0; k < x.count(0); k++) {
            for (int what = 0; what < 8; what++) {
                all.append(x.told(k, what)).append(' ');
            }
        }
        for (int what = 0; what < 9; what++) {
            all.append(x.count(what)).append(' ');
        }
        return all.toString();
    }

    /** Feeds a text by eight bytes a call; the higher bytes of the last call are none of it. */
    static void feed(BoltRing x, String text) {
        for (int at = 0; at < text.length(); at += 8) {
            String part = text.substring(at, Math.min(text.length(), at + 8));
            x.feed(part.length(), packed(part));
        }
    }

    static long packed(String text) {
        long bytes = 0;
        for (int i = 0; i < text.length(); i++) {
            bytes = bytes << 8 | text.charAt(i);
        }
        return bytes;
    }

    static int read(BoltRing x, String text) {
        feed(x, text);
        return x.read();
    }

    /** PULL (0), PRESS (1) or LIFT (2) of a bolt. */
    static Fraction force(BoltRing x, int k, int force) {
        return Fraction.of(BigInteger.valueOf(x.force(k, force, 0)), BigInteger.valueOf(x.force(k, force, 1)));
    }

    static Fraction leak(BoltRing x, int i) {
        return Fraction.of(BigInteger.valueOf(x.leak(i, 0)), BigInteger.valueOf(x.leak(i, 1)));
    }

    static BoltRing ringOf(int n, int rib) {
        BoltRing x = new BoltRing();
        x.joint(n, rib);
        return x;
    }

    /** Sets one of stiffness, pads, turns, loads of all bolts. */
    static void setAll(BoltRing x, int what, int... values) {
        for (int k = 0; k < values.length; k++) {
            x.set(k, what, values[k]);
        }
    }

    /** Whether a bolt's pull is t or more. */
    static boolean hasPull(BoltRing x, int k, int t) {
        return x.force(k, 0, 0) >= t * x.force(k, 0, 1);
    }

    static boolean allHave(BoltRing x, int t) {
        for (int k = 0; k < x.count(0); k++) {
            if (x.told(k, 4) == 0 && !hasPull(x, k, t)) {
                return false;
            }
        }
        return true;
    }

    /** Six bolts, of which bolt 2 pulls 126 and 2 parts of 19828313 more. */
    static BoltRing hardlyAbove() {
        BoltRing x = ringOf(6, 8);
        setAll(x, 0, 1, 2, 5, 1, 9, 1);
        setAll(x, 1, 1, 3, 9, 6, 4, 8);
        setAll(x, 2, 54, 44, 26, 22, 93, 68);
        setAll(x, 3, 138, 0, 182, 194, 0, 98);
        return x;
    }

    /** Six bolts, of which bolt 4 pulls 22 less one part of 3373815. */
    static BoltRing hardlyBelow() {
        BoltRing x = ringOf(6, 5);
        setAll(x, 0, 8, 6, 5, 3, 6, 5);
        setAll(x, 1, 4, 2, 1, 4, 4, 1);
        setAll(x, 2, 128, 95, 181, 78, 38, 47);
        setAll(x, 3, 0, 0, 0, 0, 0, 148);
        return x;
    }

    /** The bolts from the last to the first, as a number. */
    static int backward(int n) {
        return 543210 % new int[] {1000, 10000, 100000, 1000000}[n - 3];
    }

    void end() {
        if (wrong != 0) {
            System.out.println(wrong + " answers are not as due");
            System.exit(1);
        }
    }
}
