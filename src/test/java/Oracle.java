import java.math.BigInteger;
import java.util.ArrayList;
import java.util.Arrays;
import java.util.HashMap;
import java.util.List;
import java.util.Map;

/** The document's words once more, as plainly and slowly as can be, to judge the class by. */
final class Oracle {
    static final int NONE = -1;
    static final int FULL = -2;
    private final Model net;
    int[] marks;
    int[] goals;

    Oracle(Model net) {
        this.net = net;
        marks = net.told.clone();
        goals = new int[net.places];
    }

    int errs(int t, int[] m) {
        for (int p = 0; p < net.places; p++) {
            if (m[p] < net.in[t][p]) {
                return 1;
            }
        }
        for (int p = 0; p < net.places; p++) {
            if (net.bar[t][p] > 0 && m[p] >= net.bar[t][p]) {
                return 2;
            }
        }
        if (net.conditions.get(t) != null && !net.conditions.get(t).test(m)) {
            return 3;
        }
        int[] then = behind(t, m);
        for (int p = 0; p < net.places; p++) {
            if (then[p] > net.room[p]) {
                return 4;
            }
        }
        return 0;
    }

    int[] behind(int t, int[] m) {
        int[] then = m.clone();
        for (int p = 0; p < net.places; p++) {
            then[p] += net.out[t][p] - net.in[t][p];
        }
        return then;
    }

    private static List<Integer> key(int[] m) {
        List<Integer> list = new ArrayList<>();
        for (int n : m) {
            list.add(n);
        }
        return list;
    }

    /** The states, those beyond the told number left out; without one act, if it is one. */
    private boolean overfull;

    List<int[]> come(int most, int without) {
        overfull = false;
        List<int[]> states = new ArrayList<>();
        List<List<Integer>> seen = new ArrayList<>();
        states.add(marks.clone());
        seen.add(key(marks));
        for (int s = 0; s < states.size(); s++) {
            for (int t = 0; t < net.acts; t++) {
                if (t == without || errs(t, states.get(s)) != 0) {
                    continue;
                }
                int[] then = behind(t, states.get(s));
                if (seen.contains(key(then))) {
                    continue;
                }
                if (states.size() == most) {
                    overfull = true;
                    return states;
                }
                states.add(then);
                seen.add(key(then));
            }
        }
        return states;
    }

    private int find(List<int[]> states, int[] m) {
        for (int s = 0; s < states.size(); s++) {
            if (Arrays.equals(states.get(s), m)) {
                return s;
            }
        }
        return NONE;
    }

    /** Which states can be come to from which, of all that come. */
    private boolean[][] reach(List<int[]> states) {
        int n = states.size();
        boolean[][] r = new boolean[n][n];
        for (int s = 0; s < n; s++) {
            r[s][s] = true;
            for (int t = 0; t < net.acts; t++) {
                if (errs(t, states.get(s)) == 0) {
                    r[s][find(states, behind(t, states.get(s)))] = true;
                }
            }
        }
        for (int k = 0; k < n; k++) {
            for (int i = 0; i < n; i++) {
                for (int j = 0; r[i][k] && j < n; j++) {
                    r[i][j] |= r[k][j];
                }
            }
        }
        return r;
    }

    int states(int most) {
        int n = come(most, NONE).size();
        return overfull ? FULL : n;
    }

    int state(int most, int k, int place) {
        List<int[]> states = come(most, NONE);
        if (overfull) {
            return FULL;
        }
        return k < 0 || k >= states.size() ? NONE : states.get(k)[place];
    }

    private boolean isDead(int[] m) {
        for (int t = 0; t < net.acts; t++) {
            if (errs(t, m) == 0) {
                return false;
            }
        }
        return true;
    }

    int dead(int most, int i) {
        List<int[]> states = come(most, NONE);
        if (overfull) {
            return FULL;
        }
        List<Integer> dead = new ArrayList<>();
        for (int s = 0; s < states.size(); s++) {
            if (isDead(states.get(s))) {
                dead.add(s);
            }
        }
        return i < 0 || i >= dead.size() ? NONE : dead.get(i);
    }

    int lives(int most, int act) {
        List<int[]> states = come(most, NONE);
        if (overfull) {
            return FULL;
        }
        boolean[][] r = reach(states);
        boolean ever = false;
        boolean always = true;
        for (int s = 0; s < states.size(); s++) {
            boolean some = false;
            for (int g = 0; g < states.size(); g++) {
                some |= r[s][g] && errs(act, states.get(g)) == 0;
            }
            ever |= errs(act, states.get(s)) == 0;
            always &= some;
        }
        return !ever ? 0 : always ? 2 : 1;
    }

    int home(int most, int what) {
        List<int[]> states = come(most, NONE);
        if (overfull) {
            return FULL;
        }
        boolean[][] r = reach(states);
        int homes = 0;
        boolean first = false;
        int knots = 0;
        for (int s = 0; s < states.size(); s++) {
            boolean home = true;
            boolean closed = true;
            boolean least = true;
            for (int g = 0; g < states.size(); g++) {
                home &= r[g][s];
                closed &= !r[s][g] || r[g][s];
                least &= !(r[s][g] && r[g][s] && g < s);
            }
            homes += home ? 1 : 0;
            first |= home && s == 0;
            knots += closed && least ? 1 : 0;
        }
        return what == 0 ? homes : what == 1 ? (first ? 1 : 0) : knots;
    }

    int most(int most, int place) {
        List<int[]> states = come(most, NONE);
        if (overfull) {
            return FULL;
        }
        int best = 0;
        for (int[] s : states) {
            best = Math.max(best, s[place]);
        }
        return best;
    }

    private boolean meets(int[] m, boolean above) {
        for (int p = 0; p < net.places; p++) {
            if (above ? m[p] < goals[p] : m[p] != goals[p]) {
                return false;
            }
        }
        return true;
    }

    /** The way's acts; null if there is none such; overfull tells why. */
    private List<Integer> wayOf(int most, boolean above) {
        List<int[]> states = come(most, NONE);
        int n = states.size();
        int[] far = new int[n];
        for (int s = 0; s < n; s++) {
            far[s] = meets(states.get(s), above) ? 0 : 1000000;
        }
        for (boolean again = true; again;) {
            again = false;
            for (int s = 0; s < n; s++) {
                for (int t = 0; t < net.acts; t++) {
                    int g = errs(t, states.get(s)) == 0 ? find(states, behind(t, states.get(s))) : NONE;
                    if (g != NONE && far[g] + 1 < far[s]) {
                        far[s] = far[g] + 1;
                        again = true;
                    }
                }
            }
        }
        if (far[0] >= 1000000) {
            return null;
        }
        List<Integer> way = new ArrayList<>();
        int s = 0;
        while (far[s] > 0) {
            for (int t = 0; t < net.acts; t++) {
                int g = errs(t, states.get(s)) == 0 ? find(states, behind(t, states.get(s))) : NONE;
                if (g != NONE && far[g] == far[s] - 1) {
                    way.add(t);
                    s = g;
                    break;
                }
            }
        }
        return way;
    }

    int way(int most, boolean above) {
        List<Integer> way = wayOf(most, above);
        return way != null ? way.size() : overfull ? FULL : NONE;
    }

    int step(int most, boolean above, int k) {
        List<Integer> way = wayOf(most, above);
        if (way == null) {
            return overfull ? FULL : NONE;
        }
        return k < 0 || k >= way.size() ? NONE : way.get(k);
    }

    int cheapest(int most, boolean above) {
        List<int[]> states = come(most, NONE);
        if (overfull) {
            return FULL;
        }
        long[] price = new long[states.size()];
        Arrays.fill(price, Long.MAX_VALUE / 2);
        price[0] = 0;
        for (int round = 0; round < states.size(); round++) {
            for (int s = 0; s < states.size(); s++) {
                for (int t = 0; t < net.acts; t++) {
                    if (errs(t, states.get(s)) == 0) {
                        int g = find(states, behind(t, states.get(s)));
                        price[g] = Math.min(price[g], price[s] + net.cost[t]);
                    }
                }
            }
        }
        long best = Long.MAX_VALUE / 2;
        for (int s = 0; s < states.size(); s++) {
            best = meets(states.get(s), above) ? Math.min(best, price[s]) : best;
        }
        return best == Long.MAX_VALUE / 2 ? NONE : (int) best;
    }

    long rows(int most, int n) {
        come(most, NONE);
        return overfull ? FULL : rowsFrom(marks, n, new HashMap<>());
    }

    private long rowsFrom(int[] m, int n, Map<List<Integer>, Long> known) {
        if (n == 0) {
            return 1;
        }
        List<Integer> key = key(m);
        key.add(n);
        if (known.containsKey(key)) {
            return known.get(key);
        }
        long sum = 0;
        for (int t = 0; t < net.acts; t++) {
            sum += errs(t, m) == 0 ? rowsFrom(behind(t, m), n - 1, known) : 0;
        }
        known.put(key, sum);
        return sum;
    }

    /** The base of kept rows or rounds: what solves all equations, brought to the reduced form. */
    List<BigInteger[]> base(boolean rounds) {
        int unknowns = rounds ? net.acts : net.places;
        int equations = rounds ? net.places : net.acts;
        List<BigInteger[]> rows = new ArrayList<>();
        for (int e = 0; e < equations; e++) {
            BigInteger[] row = new BigInteger[unknowns];
            for (int u = 0; u < unknowns; u++) {
                int t = rounds ? u : e;
                int p = rounds ? e : u;
                row[u] = BigInteger.valueOf(net.out[t][p] - net.in[t][p]);
            }
            rows.add(row);
        }
        reduce(rows, unknowns);
        int[] lead = new int[rows.size()];
        List<Integer> free = new ArrayList<>();
        for (int u = 0; u < unknowns; u++) {
            free.add(u);
        }
        for (int r = 0; r < rows.size(); r++) {
            while (rows.get(r)[lead[r]].signum() == 0) {
                lead[r]++;
            }
            free.remove(Integer.valueOf(lead[r]));
        }
        List<BigInteger[]> solved = new ArrayList<>();
        for (int f : free) {
            BigInteger[] row = new BigInteger[unknowns];
            Arrays.fill(row, BigInteger.ZERO);
            BigInteger all = BigInteger.ONE;
            for (int r = 0; r < rows.size(); r++) {
                all = all.multiply(rows.get(r)[lead[r]]);
            }
            row[f] = all;
            for (int r = 0; r < rows.size(); r++) {
                row[lead[r]] = rows.get(r)[f].negate().multiply(all).divide(rows.get(r)[lead[r]]);
            }
            solved.add(row);
        }
        reduce(solved, unknowns);
        return solved;
    }

    private static void reduce(List<BigInteger[]> rows, int width) {
        int rank = 0;
        for (int u = 0; u < width; u++) {
            int found = rank;
            while (found < rows.size() && rows.get(found)[u].signum() == 0) {
                found++;
            }
            if (found == rows.size()) {
                continue;
            }
            BigInteger[] lead = rows.remove(found);
            rows.add(rank, lead);
            for (int r = 0; r < rows.size(); r++) {
                BigInteger here = rows.get(r)[u];
                for (int v = 0; r != rank && v < width; v++) {
                    rows.get(r)[v] = rows.get(r)[v].multiply(lead[u]).subtract(lead[v].multiply(here));
                }
            }
            rank++;
        }
        while (rows.size() > rank) {
            rows.remove(rank);
        }
        for (BigInteger[] row : rows) {
            BigInteger common = BigInteger.ZERO;
            int sign = 0;
            for (BigInteger n : row) {
                common = common.gcd(n);
                sign = sign == 0 ? n.signum() : sign;
            }
            for (int v = 0; v < width; v++) {
                row[v] = row[v].divide(common).multiply(BigInteger.valueOf(sign));
            }
        }
    }

    boolean never() {
        for (BigInteger[] row : base(false)) {
            BigInteger sum = BigInteger.ZERO;
            for (int p = 0; p < net.places; p++) {
                sum = sum.add(row[p].multiply(BigInteger.valueOf(marks[p] - goals[p])));
            }
            if (sum.signum() != 0) {
                return true;
            }
        }
        return false;
    }

    private static final class Node {
        int[] m;
        Node up;
    }

    private static final int ENDLESS = 1 << 28;

    List<int[]> tree() {
        List<Node> nodes = new ArrayList<>();
        Node root = new Node();
        root.m = marks.clone();
        nodes.add(root);
        for (int i = 0; i < nodes.size() && nodes.size() <= 1000; i++) {
            for (int t = 0; t < net.acts; t++) {
                Node next = grown(nodes.get(i), t);
                boolean there = next == null;
                for (Node old : nodes) {
                    there = there || Arrays.equals(old.m, next.m);
                }
                if (!there) {
                    nodes.add(next);
                }
            }
        }
        List<int[]> all = new ArrayList<>();
        for (Node node : nodes) {
            all.add(node.m);
        }
        return all;
    }

    private Node grown(Node from, int t) {
        int[] then = from.m.clone();
        for (int p = 0; p < net.places; p++) {
            if (then[p] < net.in[t][p]) {
                return null;
            }
            if (then[p] < ENDLESS) {
                then[p] += net.out[t][p] - net.in[t][p];
            }
        }
        Node node = new Node();
        node.up = from;
        node.m = then.clone();
        for (Node a = from; a != null; a = a.up) {
            boolean covered = true;
            for (int p = 0; p < net.places; p++) {
                covered &= a.m[p] <= then[p];
            }
            for (int p = 0; covered && p < net.places; p++) {
                if (a.m[p] < then[p]) {
                    node.m[p] = ENDLESS;
                }
            }
        }
        return node;
    }

    int growth() {
        int n = tree().size();
        return n > 1000 ? FULL : n;
    }

    int bound(int place) {
        List<int[]> all = tree();
        int best = 0;
        for (int[] m : all) {
            best = Math.max(best, m[place]);
        }
        return all.size() > 1000 ? FULL : best >= ENDLESS ? NONE : best;
    }

    boolean is(int bits, boolean trap) {
        for (int t = 0; t < net.acts; t++) {
            boolean takes = false;
            boolean gives = false;
            for (int p = 0; p < net.places; p++) {
                takes |= (bits >> p & 1) == 1 && net.in[t][p] > 0;
                gives |= (bits >> p & 1) == 1 && net.out[t][p] > 0;
            }
            if (trap ? takes && !gives : gives && !takes) {
                return false;
            }
        }
        return bits > 0;
    }

    boolean guarded(int bits) {
        for (int part = bits; part > 0; part = part - 1 & bits) {
            for (int p = 0; p < net.places; p++) {
                if (is(part, true) && (part >> p & 1) == 1 && marks[p] > 0) {
                    return is(bits, false);
                }
            }
        }
        return false;
    }

    int siphon(boolean trap, int i) {
        int found = 0;
        for (int bits = 1; bits < 1 << net.places; bits++) {
            boolean least = is(bits, trap);
            for (int part = bits - 1 & bits; part > 0; part = part - 1 & bits) {
                least &= !is(part, trap);
            }
            if (least && found++ == i) {
                return bits;
            }
        }
        return 0;
    }

    int looks() {
        boolean one = true;
        boolean two = true;
        boolean four = true;
        boolean eight = true;
        boolean sixteen = true;
        int[] givers = new int[net.places];
        int[] takers = new int[net.places];
        for (int t = 0; t < net.acts; t++) {
            int takes = 0;
            int gives = 0;
            for (int p = 0; p < net.places; p++) {
                takes += net.in[t][p] > 0 ? 1 : 0;
                gives += net.out[t][p] > 0 ? 1 : 0;
                takers[p] += net.in[t][p] > 0 ? 1 : 0;
                givers[p] += net.out[t][p] > 0 ? 1 : 0;
                eight &= net.bar[t][p] == 0 && net.room[p] == 999;
                sixteen &= net.in[t][p] < 2 && net.out[t][p] < 2;
                for (int u = 0; u < net.acts; u++) {
                    if (net.in[t][p] > 0 && net.in[u][p] > 0) {
                        four &= Arrays.equals(net.in[t], net.in[u]);
                    }
                }
            }
            one &= takes == 1 && gives == 1;
            eight &= net.conditions.get(t) == null;
        }
        for (int p = 0; p < net.places; p++) {
            two &= givers[p] == 1 && takers[p] == 1;
        }
        return (one ? 1 : 0) + (two ? 2 : 0) + (four ? 4 : 0) + (eight ? 8 : 0) + (sixteen ? 16 : 0);
    }

    boolean atOnce(int set) {
        int[] rest = marks.clone();
        for (int t = 0; t < net.acts; t++) {
            if ((set >> t & 1) == 1) {
                if (errs(t, marks) != 0) {
                    return false;
                }
                for (int p = 0; p < net.places; p++) {
                    rest[p] -= net.in[t][p];
                }
            }
        }
        return Arrays.stream(rest).min().getAsInt() >= 0;
    }

    int once() {
        for (int size = net.acts; size > 0; size--) {
            for (int set = 0; set < 1 << net.acts; set++) {
                if (Integer.bitCount(set) == size && atOnce(set)) {
                    return set;
                }
            }
        }
        return 0;
    }

    boolean two(int a, int b, int what) {
        boolean both = errs(a, marks) == 0 && errs(b, marks) == 0;
        if (what == 0) {
            return both && !atOnce(1 << a | 1 << b);
        }
        return both && errs(a, behind(b, marks)) == 0 && errs(b, behind(a, marks)) == 0;
    }

    /** By clocks: the marks, the ends of those at work and the beginnings, moment by moment. */
    int[] clockMarks;
    int[] clockBegan;
    private int[] endsAt;

    void clock(int moments) {
        clockMarks = marks.clone();
        clockBegan = new int[net.acts];
        endsAt = new int[net.acts];
        Arrays.fill(endsAt, NONE);
        for (int moment = 0; moment < moments; moment++) {
            passMoment(moment);
        }
    }

    private void passMoment(int moment) {
        for (int t = 0; t < net.acts; t++) {
            if (endsAt[t] == moment) {
                endsAt[t] = NONE;
                for (int p = 0; p < net.places; p++) {
                    clockMarks[p] += net.out[t][p];
                }
            }
        }
        for (int t = 0; t < net.acts; t++) {
            if (endsAt[t] == NONE && errs(t, clockMarks) == 0) {
                clockBegan[t]++;
                for (int p = 0; p < net.places; p++) {
                    clockMarks[p] += (net.lasts[t] == 0 ? net.out[t][p] : 0) - net.in[t][p];
                }
                endsAt[t] = net.lasts[t] == 0 ? NONE : moment + net.lasts[t];
            }
        }
    }

    /** From, length, and the beginnings in between; null if there is no period. */
    int[] period() {
        Map<List<Integer>, Integer> seen = new HashMap<>();
        List<int[]> began = new ArrayList<>();
        clock(0);
        for (int moment = 0; moment <= 2000; moment++) {
            List<Integer> key = key(clockMarks);
            for (int t = 0; t < net.acts; t++) {
                key.add(endsAt[t] == NONE ? NONE : endsAt[t] - moment);
            }
            began.add(clockBegan.clone());
            if (seen.containsKey(key)) {
                int from = seen.get(key);
                int[] answer = new int[2 + net.acts];
                answer[0] = from;
                answer[1] = moment - from;
                for (int t = 0; t < net.acts; t++) {
                    answer[2 + t] = clockBegan[t] - began.get(from)[t];
                }
                return answer;
            }
            seen.put(key, moment);
            passMoment(moment);
        }
        return null;
    }

    int lots;

    int[] lots(int n, int seed) {
        int[] m = marks.clone();
        long s = seed & 0xFFFFFFFFL;
        for (lots = 0; lots < n; lots++) {
            List<Integer> able = new ArrayList<>();
            for (int t = 0; t < net.acts; t++) {
                if (errs(t, m) == 0) {
                    able.add(t);
                }
            }
            if (able.isEmpty()) {
                break;
            }
            s = (s * 1103515245L + 12345L) % 4294967296L;
            m = behind(able.get((int) (s / 65536 % 32768 % able.size())), m);
        }
        return m;
    }

    int often(int most, int act) {
        List<int[]> states = come(most, NONE);
        if (overfull) {
            return FULL;
        }
        boolean[][] r = reach(states);
        int n = states.size();
        int[] best = new int[n];
        for (int round = 0; round <= n; round++) {
            for (int s = 0; s < n; s++) {
                for (int t = 0; t < net.acts; t++) {
                    if (errs(t, states.get(s)) != 0) {
                        continue;
                    }
                    int g = find(states, behind(t, states.get(s)));
                    if (t == act && r[g][s]) {
                        return NONE;
                    }
                    best[s] = Math.max(best[s], best[g] + (t == act ? 1 : 0));
                }
            }
        }
        return best[0];
    }

    int needed(int most, boolean above, int act) {
        List<int[]> states = come(most, NONE);
        if (overfull) {
            return FULL;
        }
        if (states.stream().noneMatch(m -> meets(m, above))) {
            return NONE;
        }
        return come(most, act).stream().noneMatch(m -> meets(m, above)) ? 1 : 0;
    }

    int deepest(int most, int what) {
        List<int[]> states = come(most, NONE);
        if (overfull) {
            return FULL;
        }
        int n = states.size();
        int[] far = new int[n];
        Arrays.fill(far, 1, n, 1000000);
        for (boolean again = true; again;) {
            again = false;
            for (int s = 0; s < n; s++) {
                for (int t = 0; t < net.acts; t++) {
                    int g = errs(t, states.get(s)) == 0 ? find(states, behind(t, states.get(s))) : NONE;
                    if (g != NONE && far[s] + 1 < far[g]) {
                        far[g] = far[s] + 1;
                        again = true;
                    }
                }
            }
        }
        int where = 0;
        for (int s = 0; s < n; s++) {
            where = far[s] > far[where] ? s : where;
        }
        return what == 0 ? far[where] : where;
    }

    int[] first() {
        List<int[]> seen = new ArrayList<>();
        int[] m = marks.clone();
        for (int i = 0; i < 3000; i++) {
            int was = find(seen, m);
            if (was != NONE) {
                return new int[] {NONE, was, i - was};
            }
            seen.add(m);
            int t = 0;
            while (t < net.acts && errs(t, m) != 0) {
                t++;
            }
            if (t == net.acts) {
                return new int[] {i, NONE, NONE};
            }
            m = behind(t, m);
        }
        return new int[] {FULL, FULL, FULL};
    }

    int alike() {
        return alike(new ArrayList<>());
    }

    private int alike(List<Integer> row) {
        if (row.size() == net.places) {
            for (int p = 0; p < net.places; p++) {
                if (net.told[p] != net.told[row.get(p)] || net.room[p] != net.room[row.get(p)]) {
                    return 0;
                }
            }
            return acts(row).equals(acts(null)) ? 1 : 0;
        }
        int sum = 0;
        for (int p = 0; p < net.places; p++) {
            if (!row.contains(p)) {
                List<Integer> longer = new ArrayList<>(row);
                longer.add(p);
                sum += alike(longer);
            }
        }
        return sum;
    }

    private List<String> acts(List<Integer> row) {
        List<String> all = new ArrayList<>();
        for (int t = 0; t < net.acts; t++) {
            StringBuilder one = new StringBuilder();
            one.append(net.cost[t]).append(' ').append(net.lasts[t]);
            for (int p = 0; p < net.places; p++) {
                int q = row == null ? p : row.get(p);
                one.append(' ').append(net.in[t][q]).append(' ').append(net.out[t][q]).append(' ').append(net.bar[t][q]);
            }
            all.add(one.toString());
        }
        all.sort(null);
        return all;
    }
}
