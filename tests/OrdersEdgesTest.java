/** The sentences of section 5 and of promises 25 to 27, at their edges. */
public final class OrdersEdgesTest {
    private static final Check C = new Check();
    private static final int NONE = BoltRing.NONE, OUTSIDE = BoltRing.OUTSIDE, FULL = BoltRing.FULL;

    private static final String[][] CLAUSES = {{"draw", "0", "to", "5", ";"}, {"pass", "5", ";"},
        {"load", "0", "by", "5", ";"}, {"break", "0", ";"}, {"mend", "0", ";"}, {"row", "0", "1", "2", "3", ";"}};
    private static final String TWELVE = "pass 1;".repeat(12);

    public static void main(String[] args) {
        feedOfOneToEight();
        feedTakesTheLowestBytes();
        textOfHundredAndSixty();
        textIsEmptyThen();
        emptyText();
        eachClause();
        whatCannotStandThere();
        textThatEndsTooSoon();
        signsBesideTheLetters();
        blanksBetweenAll();
        blanksWithin();
        wordsSideBySide();
        figures();
        boltsThatThereAreNot();
        pullsAndLoads();
        boltsAgain();
        rowsWithoutAll();
        twelveAndThirteen();
        theFirstByteAndTheLeastFault();
        faultAtTheLastByte();
        nothingIsDoneWithAFault();
        doneOneByOne();
        whatCannotBeDone();
        whatCannotBeDoneAtEachPlace();
        doneThoughNothingChanges();
        faultOfTheLatest();
        C.end();
    }

    private static void reads(BoltRing x, String text, int done) {
        C.due(26, "read() of '" + text + "'", Check.read(x, text), done);
        C.due(27, "fault() of '" + text + "'", x.fault(), NONE);
        C.due(7, "count(8) of '" + text + "'", x.count(8), done);
        C.due(26, "the text is empty then", x.count(7), 0);
    }

    private static void faulty(BoltRing x, String text, int fault, int at) {
        C.due(26, "read() of '" + text + "'", Check.read(x, text), -10 - fault);
        C.due(27, "fault() of '" + text + "'", x.fault(), at);
        C.due(7, "count(8) of '" + text + "'", x.count(8), 0);
        C.due(26, "the text is empty then", x.count(7), 0);
    }

    private static void faulty(String text, int fault, int at) {
        faulty(new BoltRing(), text, fault, at);
    }

    /** "n 1 .. 8": each of them, the bytes in their order. */
    private static void feedOfOneToEight() {
        String text = "break 1;";
        for (int n = 1; n <= 8; n++) {
            BoltRing x = new BoltRing();
            int at = 0;
            while (at < text.length()) {
                int bytes = Math.min(n, text.length() - at);
                C.due(25, "feed(" + bytes + ", ..)", x.feed(bytes, Check.packed(text.substring(at, at + bytes))), at + bytes);
                at += bytes;
                C.due(7, "count(7)", x.count(7), at);
            }
            C.due(26, "read()", x.read(), 1);
            C.due(26, "told(1, 4)", x.told(1, 4), 1);
        }
        for (int n : new int[] {0, 9, -1, 64, Integer.MIN_VALUE, Integer.MAX_VALUE}) {
            BoltRing x = new BoltRing();
            C.due(25, "feed(" + n + ", ..)", x.feed(n, Check.packed(text)), OUTSIDE);
            C.due(7, "count(7)", x.count(7), 0);
        }
    }

    /** "The n lowest bytes of a long, the highest of these first": what stands above them is none of it. */
    private static void feedTakesTheLowestBytes() {
        String text = "pass 15;";
        for (int n = 1; n <= 8; n++) {
            for (long above : new long[] {0, -1, 0x7161716171617161L}) {
                BoltRing x = new BoltRing();
                Check.feed(x, text.substring(0, 8 - n));
                long mask = n == 8 ? -1 : (1L << 8 * n) - 1;
                C.due(25, "feed(" + n + ", ..)", x.feed(n, above & ~mask | Check.packed(text) & mask), 8);
                C.due(26, "read()", x.read(), 1);
                C.holds(26, "it is done", x.count(4) > 0);
            }
        }
        BoltRing x = new BoltRing();
        x.feed(8, -1);
        C.due(26, "read() of bytes of 255", x.read(), -11);
        C.due(27, "fault()", x.fault(), 0);
        x.feed(8, Long.MIN_VALUE);
        C.due(26, "read() of 128 and noughts", x.read(), -11);
        x.feed(8, 0x2020202020202000L);
        C.due(26, "read() of a nought", x.read(), -11);
        C.due(27, "fault(), the lowest byte is the last", x.fault(), 7);
        x.feed(8, 0xff20202020202020L);
        C.due(26, "read()", x.read(), -11);
        C.due(27, "fault(), the highest byte is the first", x.fault(), 0);
    }

    /** "(160 bytes at most)": by every number of bytes up to 160, and one more. */
    private static void textOfHundredAndSixty() {
        for (int n = 1; n <= 8; n++) {
            for (int length = 160 - n; length <= 161 - n; length++) {
                BoltRing x = new BoltRing();
                Check.feed(x, " ".repeat(length));
                C.due(7, "count(7)", x.count(7), length);
                long sound = Check.packed("       ;");
                C.due(25, "feed(" + n + ", ..) behind " + length, x.feed(n, sound), length + n <= 160 ? length + n : FULL);
                C.due(7, "count(7)", x.count(7), length + n <= 160 ? 160 : length);
                C.due(26, "read()", x.read(), length + n <= 160 ? -11 : 0);
                C.due(27, "fault()", x.fault(), length + n <= 160 ? 159 : NONE);
            }
        }
        BoltRing x = new BoltRing();
        for (int i = 1; i <= 20; i++) {
            C.due(25, "feed(8, ..)", x.feed(8, Check.packed("        ")), 8 * i);
        }
        for (int n = 1; n <= 8; n++) {
            C.due(25, "feed behind 160", x.feed(n, Check.packed("        ")), FULL);
        }
        C.due(7, "count(7)", x.count(7), 160);
        reads(x, "", 0);
        C.due(25, "feed(8, ..) anew", x.feed(8, Check.packed("break 1;")), 8);
        reads(x, "", 1);
        String twelve = "load 0 by 1;".repeat(11) + " ".repeat(16) + "load 0 by 2;";
        C.due(25, "bytes", twelve.length(), 160);
        reads(x, twelve, 12);
        C.due(26, "the last of 160 bytes is read", x.told(0, 3), 2);
    }

    /** "THE TEXT (it is empty then, with a FAULT, too)". */
    private static void textIsEmptyThen() {
        BoltRing x = new BoltRing();
        String[] texts = {"break 1;", "break 1", "q", "   ", "mend 1;mend 1;", "x".repeat(160)};
        for (String text : texts) {
            Check.feed(x, text);
            C.due(7, "count(7)", x.count(7), text.length());
            x.read();
            C.due(7, "count(7) behind read()", x.count(7), 0);
            C.due(26, "read() again", x.read(), 0);
            C.due(27, "fault()", x.fault(), NONE);
            C.due(7, "count(8)", x.count(8), 0);
        }
        Check.read(x, "row 3 2");
        C.due(25, "feed behind a fault", x.feed(2, Check.packed(" 1")), 2);
        C.due(26, "what was faulty is gone", x.read(), -11);
        C.due(27, "fault()", x.fault(), 1);
    }

    /** No byte, or no more than blanks: no clause, and no FAULT. */
    private static void emptyText() {
        BoltRing x = new BoltRing();
        reads(x, "", 0);
        reads(x, " ", 0);
        reads(x, " ".repeat(160), 0);
        C.due(4, "nothing is done", x.count(1), 0);
    }

    /** Each clause, and each behind each other. */
    private static void eachClause() {
        for (String[] first : CLAUSES) {
            for (String[] second : CLAUSES) {
                BoltRing x = new BoltRing();
                x.broken(0, first[0].equals("mend"));
                int done = Check.read(x, String.join(" ", first) + String.join(" ", second));
                boolean ends = first[0].equals("break") && (second[0].equals("draw") || second[0].equals("break"))
                        || second[0].equals("mend") && !first[0].equals("break");
                C.due(26, "read() of " + first[0] + " and " + second[0], done, ends ? 1 : 2);
            }
        }
    }

    private static String joined(String[] tokens, int from, int to) {
        StringBuilder text = new StringBuilder();
        for (int i = from; i < to; i++) {
            text.append(tokens[i]).append(' ');
        }
        return text.toString();
    }

    /** What a sign is among the clauses: a beginning, a word within, a number, a ';' or none of these. */
    private static String kind(String token) {
        for (String[] clause : CLAUSES) {
            if (clause[0].equals(token)) {
                return "beginning";
            }
        }
        char sign = token.charAt(0);
        return sign >= '0' && sign <= '9' ? "number" : token;
    }

    /** "1 it cannot stand there (a word that cannot: at its first letter)": each wrong one at each place of each clause. */
    private static void whatCannotStandThere() {
        String[] others = {"draw", "pass", "load", "break", "mend", "row", "to", "by", "bolt", "0", "3", "77", ";", "#", "A", "-", ","};
        for (String[] clause : CLAUSES) {
            for (int at = 0; at < clause.length; at++) {
                for (String other : others) {
                    boolean inRow = clause[0].equals("row") && at > 1;
                    if (kind(other).equals(kind(clause[at])) || inRow && (other.equals(";") || kind(other).equals("number"))) {
                        continue;
                    }
                    String ahead = joined(clause, 0, at);
                    String text = ahead + other + " " + joined(clause, at + 1, clause.length);
                    faulty(text, 1, ahead.length());
                    faulty("  pass 7;" + text, 1, 9 + ahead.length());
                    faulty(ahead + other, 1, ahead.length());
                }
            }
        }
        for (String[] clause : CLAUSES) {
            faulty(joined(clause, 0, clause.length) + ";", 1, joined(clause, 0, clause.length).length());
            faulty(joined(clause, 0, clause.length) + "0", 1, joined(clause, 0, clause.length).length());
        }
    }

    /** "(the end at the text's length)": behind each place of each clause, blanks counted. */
    private static void textThatEndsTooSoon() {
        for (String[] clause : CLAUSES) {
            for (int to = 1; to < clause.length; to++) {
                String text = joined(clause, 0, to);
                faulty(text, 1, text.length());
                faulty(text + "   ", 1, text.length() + 3);
                faulty(text.trim(), 1, text.length() - 1);
                faulty("break 2;" + text.trim(), 1, 7 + text.length());
            }
        }
    }

    /** "Words are letters a .. z": the signs beside a, z, 0, 9, ';' and the blank. */
    private static void signsBesideTheLetters() {
        for (int sign = 0; sign < 256; sign++) {
            boolean letter = sign >= 'a' && sign <= 'z';
            boolean figure = sign >= '0' && sign <= '9';
            char c = (char) sign;
            if (!letter && sign != ' ') {
                faulty(c + "pass 1;", 1, 0);
            }
            if (!letter && !figure && sign != ' ') {
                faulty("pass" + c + "1;", 1, 4);
                faulty("row 0 1" + c, sign == ';' ? 4 : 1, 7);
            }
            if (!figure && sign != ' ' && sign != ';') {
                faulty("pass 1" + c + ";", 1, 6);
                faulty("pass 1;" + c, 1, 7);
            }
        }
        reads(new BoltRing(), "pass 1; ", 1);
        reads(new BoltRing(), " pass 1;", 1);
        reads(new BoltRing(), "pass1 ;", 1);
        reads(new BoltRing(), "draw 0 to 890;", 0);
        reads(new BoltRing(), "load 0 by 190;load 1 by 9;", 2);
    }

    /** "Blanks (32) may stand anywhere but within words and NUMBERS": none, one, many between all. */
    private static void blanksBetweenAll() {
        for (int blanks = 0; blanks < 5; blanks++) {
            String gap = " ".repeat(blanks);
            String row = "row" + gap + "3 " + gap + "1 " + gap + "0 " + gap + "2" + gap + ";";
            BoltRing x = new BoltRing();
            reads(x, gap + "draw" + gap + "1" + gap + "to" + gap + "50" + gap + ";" + gap + row + gap, 2);
            C.holds(26, "it is drawn", Check.hasPull(x, 1, 50));
            C.due(26, "told(3, 7)", x.told(3, 7), 0);
            reads(x, gap + "break" + gap + "3" + gap + ";" + gap + "mend" + gap + "3" + gap + ";" + gap, 2);
            reads(x, gap + "load" + gap + "2" + gap + "by" + gap + "200" + gap + ";" + gap + "pass" + gap + "9" + gap + ";", 2);
            C.due(26, "told(2, 3)", x.told(2, 3), 200);
        }
    }

    /** A blank within a word makes two that cannot stand there; within a NUMBER, two NUMBERS. */
    private static void blanksWithin() {
        for (String[] clause : CLAUSES) {
            for (int cut = 1; cut < clause[0].length(); cut++) {
                faulty(clause[0].substring(0, cut) + " " + clause[0].substring(cut) + " 0;", 1, 0);
            }
        }
        faulty("draw 0 t o 5;", 1, 7);
        faulty("load 0 b y 5;", 1, 7);
        faulty("pass 1 5;", 1, 7);
        faulty("draw 0 0 to 5;", 1, 7);
        faulty("draw 0 to 5 0;", 1, 12);
        faulty("load 0 by 20 0;", 1, 13);
        faulty("break 0 0;", 1, 8);
        faulty("mend 0 0;", 1, 7);
        BoltRing x = new BoltRing();
        reads(x, "row 0 1 2 3;", 1);
        faulty(x, "row 01 2 3;", 4, 10);
        faulty(x, "row 0 12 3;", 2, 6);
    }

    /** "two words or two NUMBERS side by side need one"; a word and a NUMBER need none. */
    private static void wordsSideBySide() {
        reads(new BoltRing(), "draw0to5;", 1);
        reads(new BoltRing(), "pass5;pass5;", 2);
        reads(new BoltRing(), "load0by5;break0;mend0;row3 2 1 0;", 4);
        faulty("drawpass 5;", 1, 0);
        faulty("passpass 5;", 1, 0);
        faulty("draw 0 toto 5;", 1, 7);
        faulty("draw 0 toby 5;", 1, 7);
        faulty("pass5pass5;", 1, 5);
        faulty("pass5;passpass5;", 1, 6);
        faulty("row 0123;", 2, 4);
        faulty("row 012 3;", 2, 4);
        faulty("row 0 1 23;", 2, 8);
        BoltRing x = Check.ringOf(3, 2);
        faulty(x, "row 012;", 2, 4);
        faulty(x, "row 02 1;", 4, 8);
        reads(x, "row 02 1 0;", 1);
    }

    /** "NUMBERS have one to three figures", "2 a NUMBER of four figures or more (at its first)". */
    private static void figures() {
        BoltRing x = new BoltRing();
        reads(x, "load 1 by 7;", 1);
        reads(x, "load 01 by 07;", 1);
        reads(x, "load 001 by 007;", 1);
        C.due(26, "told(1, 3)", x.told(1, 3), 7);
        reads(x, "pass 1;pass 01;pass 001;break 002;mend 02;row 000 001 002 003;draw 003 to 100;", 7);
        for (int zeros = 3; zeros < 12; zeros++) {
            String number = "0".repeat(zeros) + "1";
            faulty("load " + number + " by 7;", 2, 5);
            faulty("load 1 by " + number + ";", 2, 10);
            faulty("draw " + number + " to 7;", 2, 5);
            faulty("draw 1 to " + number + ";", 2, 10);
            faulty("pass  " + number + ";", 2, 6);
            faulty("break " + number + ";", 2, 6);
            faulty("mend " + number + ";", 2, 5);
            faulty("row " + number + " 0 2 3;", 2, 4);
            faulty("row 0 2 3 " + number + ";", 2, 10);
            faulty("row 1 " + number + " 2 3;", 2, 6);
        }
        faulty("pass 1000;", 2, 5);
        faulty("pass 9999;", 2, 5);
        faulty("pass 4294967297;", 2, 5);
        faulty("pass 18446744073709551617;", 2, 5);
        faulty("load 0 by 4294967296;", 2, 10);
        faulty("pass " + "1".repeat(155), 2, 5);
    }

    /** "out of its bounds (a BOLT that there is not": the last one of each joint, and the one behind it. */
    private static void boltsThatThereAreNot() {
        for (int n = 3; n <= 6; n++) {
            BoltRing x = Check.ringOf(n, 2);
            int last = n - 1;
            reads(x, "load " + last + " by 1;draw " + last + " to 9;break " + last + ";mend " + last + ";", 4);
            C.due(26, "told(last, 3)", x.told(last, 3), 1);
            faulty(x, "load " + n + " by 1;", 2, 5);
            faulty(x, "draw " + n + " to 9;", 2, 5);
            faulty(x, "break " + n + ";", 2, 6);
            faulty(x, "mend " + n + ";", 2, 5);
            faulty(x, "row " + n, 2, 4);
            faulty(x, "row 0 1 " + n, 2, 8);
            faulty(x, "mend 999;", 2, 5);
            reads(x, "load 0 by 1;draw 0 to 9;break 0;mend 0;", 4);
            StringBuilder row = new StringBuilder("row");
            for (int k = last; k >= 0; k--) {
                row.append(' ').append(k);
            }
            reads(x, row + ";", 1);
            C.due(26, "told(last, 7)", x.told(last, 7), 0);
            faulty(x, row + " " + n + ";", 2, row.length() + 1);
        }
    }

    /** "T 1 .. 900; LOAD 0 .. 200". */
    private static void pullsAndLoads() {
        BoltRing x = Check.ringOf(4, 1);
        Check.setAll(x, 0, 9, 9, 9, 9);
        Check.setAll(x, 1, 9, 9, 9, 9);
        Check.setAll(x, 2, 200, 200, 200, 200);
        reads(x, "draw 0 to 1;draw 3 to 900;pass 1;pass 900;", 4);
        for (String t : new String[] {"0", "00", "000", "901", "910", "999"}) {
            faulty("draw 0 to " + t + ";", 2, 10);
            faulty("pass " + t + ";", 2, 5);
        }
        reads(x, "load 0 by 0;load 1 by 1;load 2 by 199;load 3 by 200;", 4);
        for (int k = 0; k < 4; k++) {
            C.due(26, "told(" + k + ", 3)", x.told(k, 3), new int[] {0, 1, 199, 200}[k]);
        }
        for (String load : new String[] {"201", "210", "300", "900", "999"}) {
            faulty("load 3 by " + load + ";", 2, 10);
        }
        reads(x, "load 3 by 0;", 1);
        C.due(26, "told(3, 3)", x.told(3, 3), 0);
    }

    /** "3 a BOLT again in a row (at its first)": each at each place. */
    private static void boltsAgain() {
        for (int n = 3; n <= 6; n++) {
            for (int again = 1; again <= n; again++) {
                for (int which = 0; which < again; which++) {
                    StringBuilder text = new StringBuilder("row");
                    for (int k = 0; k < again; k++) {
                        text.append(' ').append(n - 1 - k);
                    }
                    int at = text.length() + 1;
                    text.append(' ').append(n - 1 - which).append(";");
                    faulty(Check.ringOf(n, 2), text.toString(), 3, at);
                    faulty(Check.ringOf(n, 2), text + " row 9 x", 3, at);
                }
            }
        }
        faulty("row 1 001;", 3, 6);
        faulty("row 01 1;", 3, 7);
        reads(new BoltRing(), "row 0 1 2 3;row 0 1 2 3;", 2);
    }

    /** "4 a row without all BOLTS (at its ';')". */
    private static void rowsWithoutAll() {
        for (int n = 3; n <= 6; n++) {
            StringBuilder text = new StringBuilder("row 0");
            for (int k = 1; k < n; k++) {
                faulty(Check.ringOf(n, 2), text + ";", 4, text.length());
                faulty(Check.ringOf(n, 2), text + "  ;", 4, text.length() + 2);
                faulty(Check.ringOf(n, 2), text + ";;", 4, text.length());
                faulty(Check.ringOf(n, 2), text + "", 1, text.length());
                text.append(' ').append(k);
            }
            reads(Check.ringOf(n, 2), text + ";", 1);
            faulty(Check.ringOf(n, 2), text.substring(0, 4) + text.substring(6) + ";", 4, text.length() - 2);
        }
        faulty("row ;", 1, 4);
        faulty("row;", 1, 3);
    }

    /** "5 a thirteenth clause (at its first letter)". */
    private static void twelveAndThirteen() {
        reads(new BoltRing(), "pass 1;".repeat(11), 11);
        reads(new BoltRing(), TWELVE, 12);
        reads(new BoltRing(), TWELVE + " ".repeat(76), 12);
        for (String[] clause : CLAUSES) {
            String text = joined(clause, 0, clause.length);
            String eleven = TWELVE.substring(7);
            reads(new BoltRing(), eleven + text, clause[0].equals("mend") ? 11 : 12);
            faulty(TWELVE + text, 5, 84);
            faulty(TWELVE + "   " + text, 5, 87);
            faulty(TWELVE + clause[0], 5, 84);
            faulty(TWELVE + clause[0] + " 9999 #", 5, 84);
            faulty(eleven + text + "pass 1;", 5, 77 + text.length());
            faulty(eleven + text + "pass 1;pass 1;", 5, 77 + text.length());
        }
        for (String other : new String[] {"to", "by", "passs", "x", "5", "5000", ";", "#"}) {
            faulty(TWELVE + other, 1, 84);
            faulty(TWELVE + " " + other + " pass 1;", 1, 85);
        }
        faulty(TWELVE.substring(7) + "pass 0;pass 1;", 2, 82);
        faulty("pass 0;" + TWELVE, 2, 5);
    }

    /** "at the first byte that has one, of these the least". */
    private static void theFirstByteAndTheLeastFault() {
        // two faults at one byte: the least
        faulty("5000;", 1, 0);
        faulty("pass 5 5000;", 1, 7);
        faulty("draw 0 901 5;", 1, 7);
        faulty("row 0 0000;", 2, 6);
        faulty("row 3 0003;", 2, 6);
        faulty("row;", 1, 3);
        faulty(TWELVE + "foo", 1, 84);
        // faults at more than one byte: the first, whichever it is
        faulty("pass 901 901;", 2, 5);
        faulty("pass 5 901;", 1, 7);
        faulty("draw 4 by 5;", 2, 5);
        faulty("draw 0 by 901;", 1, 7);
        faulty("row 0 0 4;", 3, 6);
        faulty("row 4 0 0;", 2, 4);
        faulty("row 0 x;", 1, 6);
        faulty("row 0;pass 901;", 4, 5);
        faulty("row 0 0;pass 901;", 3, 6);
        faulty("pass 901;row 0 0;", 2, 5);
        faulty("passs 901;" + TWELVE, 1, 0);
        faulty(TWELVE + "pass 901", 5, 84);
        faulty("pass 901", 2, 5);
        faulty("row 0 0", 3, 6);
    }

    /** A fault at the last of 160 bytes, and at the end of them. */
    private static void faultAtTheLastByte() {
        String[] texts = {"#", "5", ";", "z", "pass 5#", "pass 5;;", "row 0 1;", "row 1 1", "pass 0", "draw 4"};
        int[] faults = {1, 1, 1, 1, 1, 1, 4, 3, 2, 2};
        for (int i = 0; i < texts.length; i++) {
            faulty(" ".repeat(160 - texts[i].length()) + texts[i], faults[i], 159);
        }
        for (String text : new String[] {"pass", "pass 5", "draw 0", "draw 0 to", "row", "row 0 1 2 3", "load 0 by 200"}) {
            faulty(" ".repeat(160 - text.length()) + text, 1, 160);
            faulty(text + " ".repeat(160 - text.length()), 1, 160);
            faulty(" ".repeat(159 - text.length()) + text, 1, 159);
        }
    }

    /** "DONE are they one by one, if there is no FAULT", "(nothing is done)". */
    private static void nothingIsDoneWithAFault() {
        String all = "draw 0 to 40;pass 30;load 1 by 9;break 2;mend 3;row 3 2 1 0;";
        for (String fault : new String[] {"x", "pass 901;", "row 1 1;", "row 1;", "pass", ";"}) {
            BoltRing x = new BoltRing();
            x.broken(3, true);
            String before = Check.state(x);
            C.holds(26, "read() of a fault at the end", Check.read(x, all + fault) < -10);
            C.holds(26, "nothing is done", before.equals(Check.state(x)));
        }
        BoltRing x = new BoltRing();
        String before = Check.state(x);
        C.due(26, "read() of thirteen", Check.read(x, "pass 30;".repeat(13)), -15);
        C.holds(26, "nothing is done", before.equals(Check.state(x)));
        x.broken(3, true);
        C.due(26, "read() without a fault", Check.read(x, all), 6);
        C.due(26, "it is done", x.told(1, 3), 9);
        C.due(26, "it is done", x.told(0, 7), 3);
        C.due(26, "it is done", x.told(2, 4), 1);
        C.due(26, "it is done", x.told(3, 4), 0);
        C.holds(26, "it is done", x.told(0, 2) > 0 && x.told(2, 2) > 0);
    }

    /** "one by one": each sees what those ahead of it did. */
    private static void doneOneByOne() {
        BoltRing x = new BoltRing();
        BoltRing y = new BoltRing();
        reads(x, "load 1 by 60;row 2 0 3 1;pass 45;break 0;pass 50;draw 3 to 70;mend 0;draw 0 to 20;", 8);
        y.set(1, 3, 60);
        y.row(2031);
        y.pass(45);
        y.broken(0, true);
        y.pass(50);
        y.draw(3, 70);
        y.broken(0, false);
        y.draw(0, 20);
        for (int k = 0; k < 4; k++) {
            for (int what = 0; what < 8; what++) {
                C.due(26, "told(" + k + ", " + what + ")", x.told(k, what), y.told(k, what));
            }
        }
        reads(x, "break 0;break 1;break 2;mend 1;break 3;mend 0;break 1;", 7);
        C.due(26, "count(1)", x.count(1), 3);
        C.due(26, "told(0, 4)", x.told(0, 4), 0);
    }

    private static BoltRing soft() {
        BoltRing x = new BoltRing();
        x.set(2, 0, 1);
        x.broken(3, true);
        return x;
    }

    /** "the first that cannot be done ends them": each kind, what stands behind it is not done, what ahead is. */
    private static void whatCannotBeDone() {
        String[] ends = {"draw 3 to 1;", "draw 2 to 900;", "draw 0 to 900;", "pass 900;", "break 3;", "mend 0;", "mend 2;"};
        for (String end : ends) {
            BoltRing x = soft();
            reads(x, "load 0 by 5;" + end + "load 0 by 6;load 1 by 7;", 1);
            C.due(26, "what is ahead of it is done", x.told(0, 3), 5);
            C.due(26, "what is behind it is not", x.told(1, 3), 0);
            C.due(26, "nothing is drawn", x.count(4), 0);
            C.due(26, "nothing is broken or mended", x.count(1), 1);
            x = soft();
            reads(x, end, 0);
            reads(x, end + "load 0 by 6;", 0);
            C.due(26, "what is behind it is not done", x.told(0, 3), 0);
        }
        // break of the last that is not
        for (int last = 0; last < 4; last++) {
            BoltRing x = new BoltRing();
            StringBuilder text = new StringBuilder();
            for (int k = 1; k <= 4; k++) {
                text.append("break ").append((last + k) % 4).append(";");
            }
            reads(x, text + "load 0 by 6;", 3);
            C.due(26, "count(1)", x.count(1), 3);
            C.due(26, "told(last, 4)", x.told(last, 4), 0);
            C.due(26, "told(0, 3)", x.told(0, 3), 0);
            reads(x, "break " + last + ";", 0);
            reads(x, "mend " + last + ";", 0);
            reads(x, "mend " + (last + 1) % 4 + ";break " + last + ";", 2);
        }
        // a pass that ends has drawn till then, and is none of those done
        BoltRing x = soft();
        BoltRing y = soft();
        int first = y.draw(0, 199);
        int second = y.draw(1, 199);
        reads(x, "pass 199;load 0 by 6;", 0);
        C.due(26, "the turns till then", x.told(0, 2), first);
        C.due(26, "the turns till then", x.told(1, 2), second);
        C.due(26, "nothing behind it", x.told(0, 3), 0);
        C.due(26, "count(4)", x.count(4), first + second);
    }

    /** The one that cannot be done is the first, the second .. the twelfth. */
    private static void whatCannotBeDoneAtEachPlace() {
        for (int place = 0; place < 12; place++) {
            String text = "load 1 by 3;".repeat(place) + "mend 0;" + "load 2 by 4;".repeat(11 - place);
            BoltRing x = new BoltRing();
            reads(x, text, place);
            C.due(26, "told(1, 3)", x.told(1, 3), place == 0 ? 0 : 3);
            C.due(26, "told(2, 3)", x.told(2, 3), 0);
        }
    }

    /** A drawing or a pass by no turns, a load or a row as it was: done all the same. */
    private static void doneThoughNothingChanges() {
        BoltRing x = new BoltRing();
        Check.setAll(x, 2, 16, 16, 16, 16);
        String before = Check.state(x);
        C.due(26, "read()", Check.read(x, "draw 0 to 30;draw 3 to 1;pass 30;load 0 by 0;row 0 1 2 3;break 1;mend 1;"), 7);
        x.feed(1, 'x');
        x.read();
        C.holds(26, "nothing is changed", before.equals(Check.state(x)));
    }

    /** "The byte of the FAULT of the latest read(); NONE", "clauses DONE by the latest read() (0 with a FAULT)". */
    private static void faultOfTheLatest() {
        BoltRing x = new BoltRing();
        C.due(27, "fault() at first", x.fault(), NONE);
        C.due(7, "count(8) at first", x.count(8), 0);
        reads(x, "load 0 by 1;load 0 by 2;", 2);
        Check.feed(x, "load 0 by 3;x");
        C.due(7, "count(8) till the next read()", x.count(8), 2);
        C.due(27, "fault() till the next read()", x.fault(), NONE);
        C.due(26, "read()", x.read(), -11);
        C.due(27, "fault()", x.fault(), 12);
        C.due(7, "count(8)", x.count(8), 0);
        Check.feed(x, "load 0 by 4;");
        x.set(0, 2, 9);
        x.pass(20);
        C.due(27, "fault() till the next read()", x.fault(), 12);
        C.due(25, "a refused feed", x.feed(9, 0), OUTSIDE);
        C.due(27, "fault() till the next read()", x.fault(), 12);
        C.due(26, "read()", x.read(), 1);
        C.due(27, "fault()", x.fault(), NONE);
        C.due(7, "count(8)", x.count(8), 1);
        faulty(x, "x", 1, 0);
        reads(x, "", 0);
        faulty(x, "   pass 0;", 2, 8);
        faulty(x, "row 0 0;", 3, 6);
        reads(x, "mend 0;", 0);
    }
}
