/** Promises 25 to 27: orders. */
public final class OrdersTest {
    private static final Check C = new Check();
    private static final int OUTSIDE = BoltRing.OUTSIDE, FULL = BoltRing.FULL;

    public static void main(String[] args) {
        feeding();
        feedingRefused();
        textIsTakenAsFed();
        eachOrder();
        blanks();
        misplaced();
        fullTexts();
        words();
        numbers();
        rows();
        thirteenth();
        faultsChangeNothing();
        ordersThatCannotBeDone();
        faultsAreForgotten();
        C.end();
    }

    private static void feed(BoltRing x, String text) {
        for (int i = 0; i < text.length(); i++) {
            x.feed(1, text.charAt(i));
        }
    }

    private static int read(BoltRing x, String text) {
        feed(x, text);
        return x.read();
    }

    private static void reads(BoltRing x, String text, int clauses) {
        C.due(26, "read() of '" + text + "'", read(x, text), clauses);
        C.due(27, "fault() of '" + text + "'", x.fault(), -1);
        C.due(26, "count(8)", x.count(8), clauses);
        C.due(26, "the text is empty then", x.count(7), 0);
    }

    private static void faulty(String text, int fault, int at) {
        BoltRing x = new BoltRing();
        C.due(26, "read() of '" + text + "'", read(x, text), -10 - fault);
        C.due(27, "fault() of '" + text + "'", x.fault(), at);
        C.due(26, "count(8)", x.count(8), 0);
        C.due(26, "the text is empty then", x.count(7), 0);
    }

    private static void feeding() {
        BoltRing x = new BoltRing();
        C.due(25, "feed(4, 'draw')", x.feed(4, 0x64726177L), 4);
        C.due(25, "feed(8, ' 0 to 30')", x.feed(8, 0x203020746f203330L), 12);
        C.due(25, "feed(1, ';'), higher bytes left out", x.feed(1, 0x7777773bL), 13);
        C.due(25, "count(7)", x.count(7), 13);
        C.due(25, "read()", x.read(), 1);
        BoltRing y = new BoltRing();
        y.draw(0, 30);
        C.due(25, "told(0, 2)", x.told(0, 2), y.told(0, 2));
        C.due(25, "feed(2, -1)", x.feed(2, -1), 2);
    }

    private static void feedingRefused() {
        BoltRing x = new BoltRing();
        C.due(25, "feed(0, 32)", x.feed(0, 32), OUTSIDE);
        C.due(25, "feed(9, 32)", x.feed(9, 32), OUTSIDE);
        C.due(25, "feed(-1, 32)", x.feed(-1, 32), OUTSIDE);
        C.due(25, "count(7)", x.count(7), 0);
        long blanks = 0x2020202020202020L;
        for (int i = 1; i <= 19; i++) {
            C.due(25, "feed(8, blanks)", x.feed(8, blanks), 8 * i);
        }
        C.due(25, "feed(5, blanks)", x.feed(5, blanks), 157);
        C.due(25, "feed(4, blanks)", x.feed(4, blanks), FULL);
        C.due(25, "feed(9, blanks), OUTSIDE ahead of FULL", x.feed(9, blanks), OUTSIDE);
        C.due(25, "feed(3, blanks)", x.feed(3, blanks), 160);
        C.due(25, "feed(1, blanks)", x.feed(1, blanks), FULL);
        C.due(25, "count(7)", x.count(7), 160);
        C.due(26, "read() of blanks", x.read(), 0);
        C.due(25, "feed(1, 32)", x.feed(1, 32), 1);
    }

    /** Bytes of all worth, at all places, are kept as they came. */
    private static void textIsTakenAsFed() {
        for (int bad = 0; bad < 256; bad++) {
            BoltRing x = new BoltRing();
            boolean fits = bad == ' ' || bad == ';' || bad >= '0' && bad <= '9' || bad >= 'a' && bad <= 'z';
            if (!fits) {
                x.feed(8, 0x7061737320312000L | bad);
                C.due(25, "read() of byte " + bad, x.read(), -11);
                C.due(27, "fault() at byte " + bad, x.fault(), 7);
            }
        }
    }

    private static void eachOrder() {
        BoltRing x = new BoltRing();
        BoltRing y = new BoltRing();
        reads(x, "", 0);
        reads(x, "draw 2 to 40;", 1);
        y.draw(2, 40);
        reads(x, "row 3 1 0 2;", 1);
        y.row(3102);
        reads(x, "pass 33;", 1);
        y.pass(33);
        reads(x, "load 1 by 200;load 0 by 7;load 0 by 0;", 3);
        y.set(1, 3, 200);
        reads(x, "break 3;", 1);
        y.broken(3, true);
        same(x, y);
        reads(x, "mend 3;break 0;", 2);
        y.broken(3, false);
        y.broken(0, true);
        reads(x, "row 0 1 2 3;pass 60;draw 1 to 61;", 3);
        y.row(123);
        y.pass(60);
        y.draw(1, 61);
        same(x, y);
        x.joint(6, 1);
        reads(x, "row 5 4 3 2 1 0;draw 5 to 1;break 5;", 3);
        C.due(26, "told(5, 7)", x.told(5, 7), 0);
        x.joint(3, 1);
        reads(x, "row 0 2 1;", 1);
        C.due(26, "told(2, 7)", x.told(2, 7), 1);
    }

    private static void same(BoltRing x, BoltRing y) {
        for (int k = 0; k < 4; k++) {
            for (int what = 0; what < 8; what++) {
                C.due(26, "told(" + k + ", " + what + ")", x.told(k, what), y.told(k, what));
            }
            C.due(26, "force(" + k + ", 2, 0)", x.force(k, 2, 0), y.force(k, 2, 0));
        }
    }

    private static void blanks() {
        BoltRing x = new BoltRing();
        reads(x, "   ", 0);
        reads(x, "  draw  2  to  40  ;  ", 1);
        reads(x, "draw1to5;load2by3;pass7;break0;mend0;row0 1 2 3;", 6);
        reads(x, "row0   3 1   2;row  3 2 1 0 ;", 2);
        C.due(26, "told(3, 7)", x.told(3, 7), 0);
        faulty("dr aw 1 to 5;", 1, 0);
        faulty("pass 1 0;", 1, 7);
        faulty("drawto 5;", 1, 0);
        faulty("pass 1;\t", 1, 7);
        faulty("pass\n1;", 1, 4);
        faulty("break1;row0123;", 2, 10);
    }

    private static void misplaced() {
        faulty(";", 1, 0);
        faulty("5", 1, 0);
        faulty("5000;", 1, 0);
        faulty("pass 5;;", 1, 7);
        faulty("pass;", 1, 4);
        faulty("pass", 1, 4);
        faulty("pass ", 1, 5);
        faulty("pass 5", 1, 6);
        faulty("pass 5  ", 1, 8);
        faulty("pass 5 6;", 1, 7);
        faulty("pass 5 pass 6;", 1, 7);
        faulty("draw 0;", 1, 6);
        faulty("draw 0 5;", 1, 7);
        faulty("draw 0 by 5;", 1, 7);
        faulty("draw to 5;", 1, 5);
        faulty("draw 0 to;", 1, 9);
        faulty("draw 0 to to 5;", 1, 10);
        faulty("draw 0 to 5 6;", 1, 12);
        faulty("load 0 to 5;", 1, 7);
        faulty("load 0 by;", 1, 9);
        faulty("break;", 1, 5);
        faulty("break 0 1;", 1, 8);
        faulty("mend 0 to 1;", 1, 7);
        faulty("row;", 1, 3);
        faulty("row", 1, 3);
        faulty("row 0 1", 1, 7);
        faulty("row 0 1 row", 1, 8);
        faulty("row 0 1 2 3", 1, 11);
        faulty("row 0 1 2 3 pass", 1, 12);
        faulty("row 0 1,2 3;", 1, 7);
        faulty("pass -5;", 1, 5);
        faulty("pass 5;  x", 1, 9);
    }

    /** A text may end anywhere, at its last possible byte, too, and nothing older stands behind it. */
    private static void fullTexts() {
        String[] ends = {"pass 5", "pass", "pass 5;", "row 0 1 2 3", "x"};
        for (String end : ends) {
            String blanks = " ".repeat(160 - end.length());
            boolean whole = end.equals("pass 5;");
            BoltRing x = new BoltRing();
            C.due(26, "read() of 160 bytes", read(x, blanks + end), whole ? 1 : -11);
            C.due(27, "fault() of 160 bytes", x.fault(), whole ? -1 : end.equals("x") ? 159 : 160);
        }
        faulty("9".repeat(160), 1, 0);
        faulty("q".repeat(160), 1, 0);
        faulty("pass " + "9".repeat(155), 2, 5);
        BoltRing x = new BoltRing();
        read(x, "break 12");
        C.due(26, "read() after a longer text", read(x, "break 1"), -11);
        C.due(27, "fault() after a longer text", x.fault(), 7);
        read(x, "passpass");
        C.due(26, "read() after a longer text", read(x, "pass"), -11);
        C.due(27, "fault() after a longer text", x.fault(), 4);
    }

    private static void words() {
        String[] none = {"d", "dra", "drawn", "drawdraw", "Draw", "pas", "passs", "loa", "loads", "brea", "breaks",
            "men", "mended", "ro", "rows", "to", "by", "z", "a", "bolt", "w", "ow",
            "brew", "bass", "goad", "creak", "fend", "now", "so", "my", "drab", "past", "loaf", "bread", "mens", "rot"};
        for (String word : none) {
            faulty(word + " 0 1 2 3;", 1, 0);
        }
        faulty("pass 5;to", 1, 7);
        faulty("draw 0 t 5;", 1, 7);
        faulty("draw 0 too 5;", 1, 7);
        faulty("load 0 b 5;", 1, 7);
        faulty("load 0 draw 5;", 1, 7);
        faulty("pass# 5;", 1, 4);
        faulty("dr#aw 5;", 1, 0);
        faulty("`pass 1;", 1, 0);
        faulty("pas{ 1;", 1, 0);
        faulty("pass 1:", 1, 6);
        faulty("pass /;", 1, 5);
    }

    private static void numbers() {
        faulty("draw 4 to 5;", 2, 5);
        faulty("break 4;", 2, 6);
        faulty("mend 999;", 2, 5);
        faulty("load 4 by 5;", 2, 5);
        faulty("row 4 1 2 3;", 2, 4);
        faulty("row 0 1 2 5;", 2, 10);
        faulty("draw 0 to 0;", 2, 10);
        faulty("draw 0 to 901;", 2, 10);
        faulty("pass 0;", 2, 5);
        faulty("pass 901;", 2, 5);
        faulty("pass 1000;", 2, 5);
        faulty("pass  0005;", 2, 6);
        faulty("pass 99999999999999999999;", 2, 5);
        faulty("pass 4294967297;", 2, 5);
        faulty("load 0 by 201;", 2, 10);
        faulty("load 0 by 0000;", 2, 10);
        faulty("break 0000;", 2, 6);
        faulty("pass 901", 2, 5);
        faulty("draw 9 x", 2, 5);
        BoltRing x = new BoltRing();
        reads(x, "load 003 by 200;load 0 by 000;draw 00 to 001;pass 009;row 00 001 2 3;", 5);
        C.due(26, "told(3, 3)", x.told(3, 3), 200);
        x.joint(5, 1);
        reads(x, "break 4;", 1);
        x.joint(3, 1);
        C.due(26, "read() of a bolt that is no more", read(x, "break 3;"), -12);
        x = new BoltRing();
        C.due(26, "read() of pass 900", read(x, "pass 900;"), 0);
        C.due(27, "fault()", x.fault(), -1);
    }

    private static void rows() {
        faulty("row 0 0 1 2;", 3, 6);
        faulty("row 0 1 1 2;", 3, 8);
        faulty("row 0 1 2 3 0;", 3, 12);
        faulty("row 0 1 2 3 4;", 2, 12);
        faulty("row 0 1 2 000;", 3, 10);
        faulty("row 0 1 2 0000;", 2, 10);
        faulty("row 0 1 2;", 4, 9);
        faulty("row 0 1 2  ;", 4, 11);
        faulty("row 3;", 4, 5);
        faulty("row 3;foo", 4, 5);
        faulty("row 0 1 2 3;row 3 3;", 3, 18);
    }

    private static void thirteenth() {
        String twelve = "pass 1;pass 1;pass 1;pass 1;pass 1;pass 1;pass 1;pass 1;pass 1;pass 1;pass 1;pass 1;";
        reads(new BoltRing(), twelve, 12);
        reads(new BoltRing(), twelve + "  ", 12);
        faulty(twelve + "pass 1;", 5, 84);
        faulty(twelve + "  mend", 5, 86);
        faulty(twelve + "to", 1, 84);
        faulty(twelve + "passs", 1, 84);
        faulty(twelve + ";", 1, 84);
        faulty(twelve + "1", 1, 84);
        faulty(twelve + "row 9", 5, 84);
    }

    private static void faultsChangeNothing() {
        BoltRing x = new BoltRing();
        String before = Check.state(x);
        read(x, "pass 50;break 1;load 0 by 9;row 3 2 1 0;mend");
        C.holds(26, "with a fault nothing is done", before.equals(Check.state(x)));
    }

    private static void ordersThatCannotBeDone() {
        BoltRing x = new BoltRing();
        reads(x, "break 0;break 0;load 1 by 5;", 1);
        C.due(26, "the first that cannot be done ends them", x.told(1, 3), 0);
        reads(x, "draw 0 to 5;load 1 by 5;", 0);
        reads(x, "draw 1 to 900;load 1 by 5;", 0);
        reads(x, "mend 1;load 1 by 5;", 0);
        reads(x, "break 1;break 2;break 3;load 1 by 5;", 2);
        C.due(26, "the last bolt stays", x.count(1), 3);
        reads(x, "mend 0;mend 0;", 1);
        C.due(26, "nothing was done behind", x.told(1, 3), 0);
        x = new BoltRing();
        x.set(2, 0, 1);
        reads(x, "load 3 by 0;pass 199;load 1 by 5;", 1);
        BoltRing y = new BoltRing();
        y.set(2, 0, 1);
        y.pass(199);
        C.due(26, "a pass that ends has drawn till then", x.count(4), y.count(4));
        C.holds(26, "some turns", x.count(4) > 0);
        C.due(26, "nothing was done behind", x.told(1, 3), 0);
    }

    private static void faultsAreForgotten() {
        BoltRing x = new BoltRing();
        C.due(27, "fault() at first", x.fault(), -1);
        C.due(26, "read()", read(x, "pass 5;x"), -11);
        C.due(27, "fault()", x.fault(), 7);
        feed(x, "pass 5;break 3;");
        C.due(27, "fault() till the next read()", x.fault(), 7);
        C.due(26, "read()", x.read(), 2);
        C.due(27, "fault()", x.fault(), -1);
        C.due(26, "count(8)", x.count(8), 2);
        read(x, "pass");
        C.due(27, "fault()", x.fault(), 4);
        C.due(26, "count(8)", x.count(8), 0);
        C.due(26, "read() of the empty text", x.read(), 0);
        C.due(27, "fault()", x.fault(), -1);
    }
}
