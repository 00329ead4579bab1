import java.math.BigInteger;
import java.util.ArrayList;
import java.util.Arrays;
import java.util.HashMap;
import java.util.List;
import java.util.Map;

/**
 * The document's words once more, plain and slow, to hold the program against: lifts by trying
 * every pattern of bolts and pads, drawing by trying every number of turns, faults of orders by
 * asking at every byte whether it may stand there.
 */
final class Model {
    static final int NONE = -1, UNKNOWN = -100001, OUTSIDE = -100002, NOT = -100003, FULL = -100004, LARGE = -100005;

    int n, rib;
    int[] stiffness, pad, turns, load, row;
    boolean[] isBroken;
    List<int[]> cases;
    int[] weight;
    int[][] readings;
    StringBuilder text = new StringBuilder();
    int latestDone = 0, latestFault = NONE;
    private final Map<List<Integer>, Lift> known = new HashMap<>();
    private List<int[]> patterns;

    Model() {
        joint(4, 2);
    }

    record Lift(Fraction[] z) { }

    // ---- the lifts

    private Fraction[] lifts(int[] loads) {
        List<Integer> key = new ArrayList<>();
        key.add(n);
        key.add(rib);
        for (int k = 0; k < n; k++) {
            key.addAll(List.of(stiffness[k], pad[k], turns[k], loads[k], isBroken[k] ? 1 : 0));
        }
        if (known.size() > 20000) {
            known.clear();
        }
        Lift lift = known.get(key);
        if (lift == null) {
            lift = new Lift(search(loads));
            known.put(key, lift);
        }
        return lift.z();
    }

    /** Patterns: 0 the pad is open, 1 pad and bolt bear, 2 the bolt is slack; the latest that fitted is tried first. */
    private Fraction[] search(int[] loads) {
        if (patterns == null) {
            patterns = new ArrayList<>();
            for (int code = 0; code < (int) Math.pow(3, n); code++) {
                int[] pattern = new int[n];
                for (int k = 0, rest = code; k < n; k++, rest /= 3) {
                    pattern[k] = rest % 3;
                }
                patterns.add(pattern);
            }
        }
        for (int i = 0; i < patterns.size(); i++) {
            Fraction[] z = solve(patterns.get(i), loads);
            if (z != null && holds(z, loads)) {
                patterns.add(0, patterns.remove(i));
                return z;
            }
        }
        throw new IllegalStateException("no lifts");
    }

    private Fraction[] solve(int[] pattern, int[] loads) {
        Fraction[][] a = new Fraction[n][n + 1];
        for (int k = 0; k < n; k++) {
            Arrays.fill(a[k], Fraction.of(0));
            int bolt = !isBroken[k] && pattern[k] < 2 ? stiffness[k] : 0;
            a[k][k] = Fraction.of(bolt + (pattern[k] > 0 ? pad[k] : 0) + 2L * rib);
            a[k][(k + 1) % n] = Fraction.of(-rib);
            a[k][(k + n - 1) % n] = Fraction.of(-rib);
            a[k][n] = Fraction.of((long) bolt * turns[k] - loads[k]);
        }
        for (int c = 0; c < n; c++) {
            int p = c;
            while (p < n && a[p][c].upper().signum() == 0) {
                p++;
            }
            if (p == n) {
                return null;
            }
            Fraction[] swapped = a[p];
            a[p] = a[c];
            a[c] = swapped;
            for (int r = 0; r < n; r++) {
                if (r != c && a[r][c].upper().signum() != 0) {
                    Fraction f = a[r][c].over(a[c][c]);
                    for (int j = c; j <= n; j++) {
                        a[r][j] = a[r][j].less(f.times(a[c][j]));
                    }
                }
            }
        }
        Fraction[] z = new Fraction[n];
        for (int k = 0; k < n; k++) {
            z[k] = a[k][n].over(a[k][k]);
        }
        return z;
    }

    private Fraction pull(Fraction[] z, int k) {
        return isBroken[k] ? Fraction.of(0) : Fraction.of(turns[k]).less(z[k]).times(stiffness[k]).atLeastNothing();
    }

    private Fraction press(Fraction[] z, int k) {
        return z[k].times(pad[k]).atLeastNothing();
    }

    private boolean holds(Fraction[] z, int[] loads) {
        for (int k = 0; k < n; k++) {
            Fraction bend = z[k].times(2).less(z[(k + 1) % n]).less(z[(k + n - 1) % n]).times(rib);
            if (pull(z, k).compareTo(press(z, k).plus(bend).plus(Fraction.of(loads[k]))) != 0) {
                return false;
            }
        }
        return true;
    }

    private boolean has(int k) {
        return k >= 0 && k < n;
    }

    private static boolean within(int v, int low, int high) {
        return v >= low && v <= high;
    }

    private int whole() {
        int whole = 0;
        for (int k = 0; k < n; k++) {
            whole += isBroken[k] ? 0 : 1;
        }
        return whole;
    }

    // ---- the joint

    int joint(int n, int rib) {
        if (!within(n, 3, 6) || !within(rib, 1, 9)) {
            return OUTSIDE;
        }
        this.n = n;
        this.rib = rib;
        stiffness = new int[n];
        Arrays.fill(stiffness, 5);
        pad = new int[n];
        Arrays.fill(pad, 3);
        turns = new int[n];
        load = new int[n];
        row = new int[n];
        for (int k = 0; k < n; k++) {
            row[k] = k;
        }
        isBroken = new boolean[n];
        cases = new ArrayList<>();
        weight = new int[] {1, 2, 1};
        readings = new int[n][];
        patterns = null;
        return n;
    }

    int set(int k, int what, int v) {
        if (!has(k)) {
            return UNKNOWN;
        }
        int[][] all = {stiffness, pad, turns, load};
        if (!within(what, 0, 3) || !within(v, what < 2 ? 1 : 0, what < 2 ? 9 : 200)) {
            return OUTSIDE;
        }
        int was = all[what][k];
        all[what][k] = v;
        return was;
    }

    int broken(int k, boolean is) {
        if (!has(k)) {
            return UNKNOWN;
        }
        boolean was = isBroken[k];
        isBroken[k] = is;
        if (whole() == 0) {
            isBroken[k] = was;
            return NOT;
        }
        return was ? 1 : 0;
    }

    int told(int k, int what) {
        if (!has(k)) {
            return UNKNOWN;
        }
        if (!within(what, 0, 7)) {
            return OUTSIDE;
        }
        Fraction[] z = lifts(load);
        int place = 0;
        while (row[place] != k) {
            place++;
        }
        int[] answers = {stiffness[k], pad[k], turns[k], load[k], isBroken[k] ? 1 : 0,
            pull(z, k).upper().signum() == 0 ? 1 : 0, press(z, k).upper().signum() == 0 ? 1 : 0, place};
        return answers[what];
    }

    long force(int k, int force, int what) {
        if (!has(k)) {
            return UNKNOWN;
        }
        if (!within(force, 0, 2) || !within(what, 0, 1)) {
            return OUTSIDE;
        }
        Fraction[] z = lifts(load);
        return (force == 0 ? pull(z, k) : force == 1 ? press(z, k) : z[k]).part(what);
    }

    int count(int what) {
        if (!within(what, 0, 8)) {
            return OUTSIDE;
        }
        int slack = 0;
        int open = 0;
        int told = 0;
        for (int k = 0; k < n; k++) {
            slack += told(k, 5);
            open += told(k, 6);
            told += readings[k] == null ? 0 : 1;
        }
        int[] answers = {n, n - whole(), slack, open, Arrays.stream(turns).sum(), cases.size(), told, text.length(), latestDone};
        return answers[what];
    }

    // ---- drawing

    private boolean hasPull(int k, int t) {
        return pull(lifts(load), k).compareTo(Fraction.of(t)) >= 0;
    }

    /** By halves, as a pull never falls while its own turns rise. */
    private int drawTo(int k, int t) {
        int was = turns[k];
        if (hasPull(k, t)) {
            return 0;
        }
        turns[k] = 200;
        if (!hasPull(k, t)) {
            turns[k] = was;
            return NOT;
        }
        int low = was;
        int high = 200;
        while (high - low > 1) {
            turns[k] = (low + high) / 2;
            if (hasPull(k, t)) {
                high = turns[k];
            } else {
                low = turns[k];
            }
        }
        turns[k] = high;
        return high - was;
    }

    int draw(int k, int t) {
        if (!has(k)) {
            return UNKNOWN;
        }
        if (!within(t, 1, 900)) {
            return OUTSIDE;
        }
        return isBroken[k] ? NOT : drawTo(k, t);
    }

    int row(int figures) {
        String told = "" + figures;
        if (figures >= 0 && told.length() == n - 1) {
            told = "0" + told;
        }
        for (int k = 0; k < n; k++) {
            if (told.length() != n || told.indexOf('0' + k) < 0) {
                return OUTSIDE;
            }
        }
        for (int place = 0; place < n; place++) {
            row[place] = told.charAt(place) - '0';
        }
        return 1;
    }

    int pass(int t) {
        if (!within(t, 1, 900)) {
            return OUTSIDE;
        }
        int drawn = 0;
        for (int k : row) {
            int more = isBroken[k] ? 0 : drawTo(k, t);
            if (more == NOT) {
                return NOT;
            }
            drawn += more;
        }
        return drawn;
    }

    private boolean allHave(int t) {
        for (int k = 0; k < n; k++) {
            if (!isBroken[k] && !hasPull(k, t)) {
                return false;
            }
        }
        return true;
    }

    int passes(int t) {
        if (!within(t, 1, 900)) {
            return OUTSIDE;
        }
        int[] were = turns.clone();
        int done = 0;
        while (!allHave(t)) {
            if (done == 20 || pass(t) == NOT) {
                turns = were;
                return NOT;
            }
            done++;
        }
        return done;
    }

    int best(int t, int what) {
        if (!within(t, 1, 900) || !within(what, 0, 2)) {
            return OUTSIDE;
        }
        if (n == 6) {
            return LARGE;
        }
        int[] wereTurns = turns.clone();
        int[] wereRow = row.clone();
        int[] best = null;
        for (int figures = 0; figures < 100000; figures++) {
            if (row(figures) != 1) {
                continue;
            }
            int done = passes(t);
            int drawn = Arrays.stream(turns).sum() - Arrays.stream(wereTurns).sum();
            turns = wereTurns.clone();
            if (done != NOT && (best == null || done < best[1] || done == best[1] && drawn < best[2])) {
                best = new int[] {figures, done, drawn};
            }
        }
        row = wereRow;
        return best == null ? NOT : best[what];
    }

    /** Turn by turn: who has less than t in a row not above the least one must be turned on. */
    int even(int t, int k) {
        if (k != NONE && !has(k)) {
            return UNKNOWN;
        }
        if (!within(t, 1, 900)) {
            return OUTSIDE;
        }
        int[] were = turns.clone();
        for (int i = 0; i < n; i++) {
            turns[i] = isBroken[i] ? turns[i] : 0;
        }
        boolean none = false;
        while (!none && !allHave(t)) {
            for (int i = 0; i < n; i++) {
                if (!isBroken[i] && !hasPull(i, t)) {
                    turns[i]++;
                    none |= turns[i] > 200;
                }
            }
        }
        int answer = k == NONE ? Arrays.stream(turns).sum() : turns[k];
        turns = were;
        return none ? NOT : answer;
    }

    // ---- loads

    int newCase() {
        if (cases.size() == 6) {
            return FULL;
        }
        cases.add(new int[n]);
        return cases.size() - 1;
    }

    int load(int i, int k, int v) {
        if (!within(i, 0, cases.size() - 1) || !has(k)) {
            return UNKNOWN;
        }
        if (!within(v, 0, 200)) {
            return OUTSIDE;
        }
        int was = cases.get(i)[k];
        cases.get(i)[k] = v;
        return was;
    }

    private Fraction leakOf(int[] loads) {
        Fraction[] z = lifts(loads);
        Fraction least = press(z, 0);
        for (int k = 1; k < n; k++) {
            least = press(z, k).compareTo(least) < 0 ? press(z, k) : least;
        }
        return least;
    }

    long leak(int i, int what) {
        if (!within(i, NONE, cases.size() - 1)) {
            return UNKNOWN;
        }
        if (!within(what, 0, 2)) {
            return OUTSIDE;
        }
        int[] loads = i == NONE ? load : cases.get(i);
        Fraction least = leakOf(loads);
        int place = 0;
        while (press(lifts(loads), place).compareTo(least) != 0) {
            place++;
        }
        return what == 2 ? place : least.part(what);
    }

    int worst() {
        int worst = NONE;
        for (int i = 0; i < cases.size(); i++) {
            if (leakOf(cases.get(i)).compareTo(leakOf(worst == NONE ? load : cases.get(worst))) < 0) {
                worst = i;
            }
        }
        return worst;
    }

    int weakest() {
        int weakest = NONE;
        Fraction least = null;
        for (int k = 0; k < n; k++) {
            if (isBroken[k] || whole() == 1) {
                continue;
            }
            isBroken[k] = true;
            Fraction leak = leakOf(load);
            isBroken[k] = false;
            if (least == null || leak.compareTo(least) < 0) {
                weakest = k;
                least = leak;
            }
        }
        return weakest;
    }

    // ---- misses, readings

    int weights(int a, int b, int c) {
        if (!within(a, 0, 9) || !within(b, 0, 9) || !within(c, 0, 9) || a == 0 && b == 0 && c == 0) {
            return OUTSIDE;
        }
        weight = new int[] {a, b, c};
        return 1;
    }

    private Fraction chanceFrom(int k, int low, int high) {
        if (k == n) {
            Fraction[] z = lifts(load);
            for (int i = 0; i < n; i++) {
                if (!isBroken[i] && !lies(pull(z, i), low, high)) {
                    return Fraction.of(0);
                }
            }
            return Fraction.of(1);
        }
        if (isBroken[k]) {
            return chanceFrom(k + 1, low, high);
        }
        Fraction sum = Fraction.of(0);
        int was = turns[k];
        for (int miss = -1; miss <= 1; miss++) {
            turns[k] = Math.max(0, was + miss);
            sum = sum.plus(chanceFrom(k + 1, low, high).times(weight[miss + 1]));
        }
        turns[k] = was;
        return sum.over(Fraction.of(weight[0] + weight[1] + weight[2]));
    }

    private static boolean lies(Fraction pull, int low, int high) {
        return pull.compareTo(Fraction.of(low)) >= 0 && pull.compareTo(Fraction.of(high)) <= 0;
    }

    long chance(int low, int high, int what) {
        if (low < 0 || low > high || high > 2000 || !within(what, 0, 1)) {
            return OUTSIDE;
        }
        return chanceFrom(0, low, high).part(what);
    }

    int reading(int k, int low, int high) {
        if (!has(k)) {
            return UNKNOWN;
        }
        if (low < 0 || low > high || high > 2000) {
            return OUTSIDE;
        }
        readings[k] = new int[] {low, high};
        return count(6);
    }

    int forget() {
        int were = count(6);
        readings = new int[n][];
        return were;
    }

    int fit() {
        Fraction[] z = lifts(load);
        for (int k = 0; k < n; k++) {
            if (readings[k] != null && !lies(pull(z, k), readings[k][0], readings[k][1])) {
                return 0;
            }
        }
        return 1;
    }

    int suspect(int i) {
        List<Integer> found = new ArrayList<>();
        for (int k = 0; k < n; k++) {
            int was = turns[k];
            for (int change = -3; change <= 3; change++) {
                turns[k] = was + change;
                if (!isBroken[k] && change != 0 && within(turns[k], 0, 200) && fit() == 1) {
                    found.add(10 * k + change + 3);
                }
            }
            turns[k] = was;
        }
        if (i == NONE) {
            return found.size();
        }
        return within(i, 0, found.size() - 1) ? found.get(i) : NONE;
    }

    // ---- orders

    int feed(int n, long bytes) {
        if (!within(n, 1, 8)) {
            return OUTSIDE;
        }
        if (text.length() + n > 160) {
            return FULL;
        }
        byte[] all = BigInteger.valueOf(bytes).toByteArray();
        for (int i = n; i >= 1; i--) {
            int at = all.length - i;
            text.append((char) ((at >= 0 ? all[at] : bytes < 0 ? -1 : 0) & 255));
        }
        return text.length();
    }

    /** The shapes of clauses: words, K a bolt, T a pull, L a load, R bolts in a row, ; the end. */
    private static final String[][] SHAPES = {
        {"draw", "K", "to", "T", ";"}, {"pass", "T", ";"}, {"load", "K", "by", "L", ";"},
        {"break", "K", ";"}, {"mend", "K", ";"}, {"row", "R", ";"}};

    int read() {
        String told = text.toString();
        text.setLength(0);
        latestDone = 0;
        List<String[]> clauses = new ArrayList<>();
        int[] fault = faultIn(told, clauses);
        latestFault = fault == null ? NONE : fault[0];
        if (fault != null) {
            return -10 - fault[1];
        }
        for (String[] clause : clauses) {
            if (!done(clause)) {
                break;
            }
            latestDone++;
        }
        return latestDone;
    }

    int fault() {
        return latestFault;
    }

    private int[] faultIn(String told, List<String[]> clauses) {
        java.util.regex.Matcher tokens = java.util.regex.Pattern.compile("[a-z]+|[0-9]+|[^ ]", java.util.regex.Pattern.DOTALL).matcher(told);
        String[] shape = null;
        int at = 0;
        List<String> taken = new ArrayList<>();
        while (tokens.find()) {
            String token = tokens.group();
            int start = tokens.start();
            boolean number = Character.isDigit(token.charAt(0)) && token.charAt(0) <= '9';
            if (shape == null) {
                for (String[] s : SHAPES) {
                    shape = s[0].equals(token) ? s : shape;
                }
                if (shape == null) {
                    return new int[] {start, 1};
                }
                if (clauses.size() == 12) {
                    return new int[] {start, 5};
                }
                taken = new ArrayList<>(List.of(token));
                at = 1;
                continue;
            }
            if (shape[at].equals("R") && token.equals(";") && taken.size() > 1) {
                if (taken.size() - 1 < n) {
                    return new int[] {start, 4};
                }
                at++;
            }
            String due = shape[at];
            if ("KTLR".contains(due)) {
                if (!number) {
                    return new int[] {start, 1};
                }
                int low = due.equals("T") ? 1 : 0;
                int high = due.equals("T") ? 900 : due.equals("L") ? 200 : n - 1;
                if (token.length() > 3 || !within(Integer.parseInt(token), low, high)) {
                    return new int[] {start, 2};
                }
                String value = "" + Integer.parseInt(token);
                if (due.equals("R") && taken.contains(value)) {
                    return new int[] {start, 3};
                }
                taken.add(value);
                at += due.equals("R") ? 0 : 1;
            } else if (!token.equals(due)) {
                return new int[] {start, 1};
            } else if (due.equals(";")) {
                clauses.add(taken.toArray(new String[0]));
                shape = null;
            } else {
                at++;
            }
        }
        return shape == null ? null : new int[] {told.length(), 1};
    }

    private boolean done(String[] clause) {
        int[] v = new int[clause.length];
        for (int i = 1; i < clause.length; i++) {
            v[i] = Integer.parseInt(clause[i]);
        }
        switch (clause[0]) {
            case "draw":
                return draw(v[1], v[2]) != NOT;
            case "pass":
                return pass(v[1]) != NOT;
            case "load":
                load[v[1]] = v[2];
                return true;
            case "break":
                return !isBroken[v[1]] && broken(v[1], true) != NOT;
            case "mend":
                return broken(v[1], false) == 1;
            default:
                row = Arrays.copyOfRange(v, 1, v.length);
                return true;
        }
    }
}
