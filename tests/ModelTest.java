import java.util.Random;

/** Random runs of calls on the program and on the model: every answer must be the same. */
public final class ModelTest {
    private static int wrong = 0;
    // an object is used for at most 512 calls; a step and the look behind it take fewer than 100
    private static final int MOST_CALLS = 512 - 100;

    private static int calls = 0;
    private static int callsOfRun;
    private static StringBuilder trace;

    private static void same(String call, long got, long want) {
        calls++;
        callsOfRun++;
        trace.append("  ").append(call).append(" -> ").append(got).append('\n');
        if (got != want) {
            wrong++;
            System.out.println(trace + "the model answers " + want);
        }
    }

    public static void main(String[] args) {
        int runs = args.length > 0 ? Integer.parseInt(args[0]) : 500;
        long seed = args.length > 1 ? Long.parseLong(args[1]) : 1;
        for (int run = 0; run < runs && wrong == 0; run++) {
            new ModelTest(seed * 1000003 + run).go();
        }
        System.out.println(wrong == 0 ? calls + " answers are the model's" : "the run above differs");
        if (wrong != 0) {
            System.exit(1);
        }
    }

    private final Random random;
    private final BoltRing x = new BoltRing();
    private final Model m = new Model();

    private ModelTest(long seed) {
        random = new Random(seed);
        callsOfRun = 0;
        trace = new StringBuilder("run of seed " + seed + ":\n");
    }

    private int from(int low, int high) {
        return low + random.nextInt(high - low + 1);
    }

    /** Mostly a bolt, at times one that there is not. */
    private int bolt() {
        return random.nextInt(25) == 0 ? from(-2, 7) : from(0, m.n - 1);
    }

    /** Mostly within the bounds, at times at an edge or over it. */
    private int edged(int low, int high) {
        switch (random.nextInt(20)) {
            case 0:
                return low - 1;
            case 1:
                return high + 1;
            case 2:
                return low;
            case 3:
                return high;
            default:
                return from(low, high);
        }
    }

    private void go() {
        setUp();
        while (callsOfRun < MOST_CALLS && wrong == 0) {
            int group = random.nextInt(10);
            if (group < 2) {
                stepJoint();
            } else if (group < 4) {
                stepDrawing();
            } else if (group < 6) {
                stepLoads();
            } else if (group < 8) {
                stepMisses();
            } else {
                stepOrders();
            }
            look();
        }
    }

    private void setUp() {
        int n = from(3, 6);
        int rib = from(1, 9);
        same("joint(" + n + ", " + rib + ")", x.joint(n, rib), m.joint(n, rib));
        int most = from(0, 3) == 0 ? 200 : from(1, 60);
        int shape = from(0, 2);
        for (int k = 0; k < n; k++) {
            if (shape > 0) {
                change(k, 0, from(1, 9));
                change(k, 1, from(1, 9));
            }
            change(k, 2, from(0, most));
            if (shape > 1) {
                change(k, 3, from(0, 3) == 0 ? from(0, 200) : 0);
            }
        }
    }

    private void change(int k, int what, int v) {
        same("set(" + k + ", " + what + ", " + v + ")", x.set(k, what, v), m.set(k, what, v));
    }

    /** At everything now and then, else at one bolt's lift and one count. */
    private void look() {
        if (random.nextInt(5) > 0) {
            int k = from(0, m.n - 1);
            int what = from(0, 8);
            same("force(" + k + ", 2, 0)", x.force(k, 2, 0), m.force(k, 2, 0));
            same("count(" + what + ")", x.count(what), m.count(what));
            return;
        }
        for (int k = 0; k < m.n; k++) {
            for (int force = 0; force < 3; force++) {
                for (int what = 0; what < 2; what++) {
                    same("force(" + k + ", " + force + ", " + what + ")", x.force(k, force, what), m.force(k, force, what));
                }
            }
        }
        for (int what = 0; what < 9; what++) {
            same("count(" + what + ")", x.count(what), m.count(what));
        }
    }

    private void stepJoint() {
        int k = bolt();
        int what = edged(0, 3);
        switch (random.nextInt(6)) {
            case 0:
            case 1:
                change(k, what, edged(what < 2 ? 1 : 0, what < 2 ? 9 : 200));
                break;
            case 2:
                boolean is = random.nextInt(3) > 0;
                same("broken(" + k + ", " + is + ")", x.broken(k, is), m.broken(k, is));
                break;
            case 3:
                int told = edged(0, 7);
                same("told(" + k + ", " + told + ")", x.told(k, told), m.told(k, told));
                break;
            case 4:
                int force = edged(0, 2);
                int part = edged(0, 1);
                same("force(" + k + ", " + force + ", " + part + ")", x.force(k, force, part), m.force(k, force, part));
                break;
            default:
                if (random.nextInt(8) == 0) {
                    int n = edged(3, 6);
                    int rib = edged(1, 9);
                    same("joint(" + n + ", " + rib + ")", x.joint(n, rib), m.joint(n, rib));
                } else {
                    change(k, 2, edged(0, 200));
                }
        }
    }

    private int pullWanted() {
        return random.nextInt(3) == 0 ? edged(1, 900) : from(1, 150);
    }

    private void stepDrawing() {
        int t = pullWanted();
        switch (random.nextInt(8)) {
            case 0:
            case 1:
                int k = bolt();
                same("draw(" + k + ", " + t + ")", x.draw(k, t), m.draw(k, t));
                break;
            case 2:
                int figures = random.nextInt(4) == 0 ? from(-5, 700000) : anyRow();
                same("row(" + figures + ")", x.row(figures), m.row(figures));
                break;
            case 3:
            case 4:
                same("pass(" + t + ")", x.pass(t), m.pass(t));
                break;
            case 5:
                same("passes(" + t + ")", x.passes(t), m.passes(t));
                break;
            case 6:
                int what = edged(0, 2);
                same("best(" + t + ", " + what + ")", x.best(t, what), m.best(t, what));
                break;
            default:
                int of = random.nextInt(2) == 0 ? -1 : bolt();
                same("even(" + t + ", " + of + ")", x.even(t, of), m.even(t, of));
        }
    }

    private int anyRow() {
        int figures = 0;
        int left = (1 << m.n) - 1;
        while (left != 0) {
            int k = random.nextInt(m.n);
            if ((left >> k & 1) != 0) {
                left &= ~(1 << k);
                figures = 10 * figures + k;
            }
        }
        return figures;
    }

    private void stepLoads() {
        int i = edged(0, Math.max(0, m.cases.size() - 1));
        switch (random.nextInt(6)) {
            case 0:
                same("newCase()", x.newCase(), m.newCase());
                break;
            case 1:
            case 2:
                int k = bolt();
                int v = edged(0, 200);
                same("load(" + i + ", " + k + ", " + v + ")", x.load(i, k, v), m.load(i, k, v));
                break;
            case 3:
                int what = edged(0, 2);
                same("leak(" + i + ", " + what + ")", x.leak(i, what), m.leak(i, what));
                break;
            case 4:
                same("worst()", x.worst(), m.worst());
                break;
            default:
                same("weakest()", x.weakest(), m.weakest());
        }
    }

    private int near(int k) {
        return m.n > k && k >= 0 ? (int) (m.force(k, 0, 0) / m.force(k, 0, 1)) : 5;
    }

    private void stepMisses() {
        int k = bolt();
        int low = random.nextInt(20) == 0 ? edged(0, 2000) : Math.max(0, near(k) - from(0, 40));
        int high = random.nextInt(20) == 0 ? edged(0, 2000) : Math.max(low, near(k) + from(0, 40));
        switch (random.nextInt(9)) {
            case 0:
                int a = edged(0, 9);
                int b = edged(0, 9);
                int c = random.nextInt(5) == 0 ? 0 : edged(0, 9);
                same("weights(" + a + ", " + b + ", " + c + ")", x.weights(a, b, c), m.weights(a, b, c));
                break;
            case 1:
            case 2:
                int part = edged(0, 1);
                int least = low - from(0, 30);
                same("chance(" + least + ", " + high + ", " + part + ")", x.chance(least, high, part), m.chance(least, high, part));
                break;
            case 3:
            case 4:
                same("reading(" + k + ", " + low + ", " + high + ")", x.reading(k, low, high), m.reading(k, low, high));
                break;
            case 5:
                if (random.nextInt(4) == 0) {
                    same("forget()", x.forget(), m.forget());
                }
                break;
            case 6:
                same("fit()", x.fit(), m.fit());
                break;
            default:
                int i = from(-2, 12);
                same("suspect(" + i + ")", x.suspect(i), m.suspect(i));
                same("suspect(-1)", x.suspect(-1), m.suspect(-1));
        }
    }

    private void stepOrders() {
        String text = text();
        for (int at = 0; at < text.length(); at += 8) {
            int n = Math.min(8, text.length() - at);
            long bytes = random.nextInt();
            for (int i = 0; i < n; i++) {
                bytes = bytes << 8 | text.charAt(at + i);
            }
            same("feed(" + n + ", " + bytes + ")", x.feed(n, bytes), m.feed(n, bytes));
        }
        int n = random.nextInt(20) == 0 ? edged(1, 8) : 0;
        same("feed(" + n + ", 0)", x.feed(n, 0), m.feed(n, 0));
        if (random.nextInt(8) > 0) {
            trace.append("  the text is '").append(m.text).append("'\n");
            same("read()", x.read(), m.read());
            same("fault()", x.fault(), m.fault());
        }
    }

    private String text() {
        StringBuilder text = new StringBuilder();
        int clauses = random.nextInt(10) == 0 ? from(11, 13) : from(0, 5);
        for (int i = 0; i < clauses; i++) {
            text.append(blanks()).append(clause());
        }
        if (random.nextInt(3) == 0 && text.length() > 0) {
            spoil(text);
        }
        return text.toString();
    }

    private void spoil(StringBuilder text) {
        int at = random.nextInt(text.length());
        switch (random.nextInt(4)) {
            case 0:
                text.deleteCharAt(at);
                break;
            case 1:
                text.setLength(at);
                break;
            case 2:
                text.insert(at, "07 9;azAto#\n\200\377".charAt(random.nextInt(14)));
                break;
            default:
                text.insert(at, " 1");
        }
    }

    private String blanks() {
        return " ".repeat(random.nextInt(3) / 2);
    }

    private String needed() {
        return random.nextInt(40) == 0 ? "" : " ";
    }

    private String number(int v) {
        String zeros = random.nextInt(10) == 0 ? "00" : "";
        return needed() + zeros + v + blanks();
    }

    private String clause() {
        String k = number(bolt());
        String t = number(pullWanted());
        switch (random.nextInt(6)) {
            case 0:
                return "draw" + k + "to" + t + ";";
            case 1:
                return "pass" + t + ";";
            case 2:
                return "load" + k + "by" + number(edged(0, 200)) + ";";
            case 3:
                return "break" + k + ";";
            case 4:
                return "mend" + k + ";";
            default:
                StringBuilder row = new StringBuilder("row");
                String figures = "" + anyRow();
                figures = figures.length() < m.n ? "0" + figures : figures;
                for (int i = 0; i < figures.length(); i++) {
                    row.append(number(figures.charAt(i) - '0'));
                }
                return row + ";";
        }
    }
}
