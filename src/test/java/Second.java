import java.math.BigInteger;
import java.nio.charset.StandardCharsets;
import java.util.ArrayList;
import java.util.Arrays;
import java.util.HashMap;
import java.util.List;
import java.util.Map;
import java.util.NoSuchElementException;

/** The whole face once more, over the oracle, with what calls change: to judge runs of calls by. */
final class Second {
    private record Image(int[] marks, int[] goals, List<Integer> row) {
    }

    // Nets whose texts may come; of all other texts only the faults are known.
    private final Map<String, Model> nets = new HashMap<>();
    private final List<Image> images = new ArrayList<>();
    private List<Integer> row = new ArrayList<>();
    private String tape = "";
    private int faultAt = -1;
    private Model net = new Model();
    private Oracle due = new Oracle(net);

    void know(Model model) {
        nets.put(model.text(), model);
    }

    boolean canRead(int n) {
        return n < 0 || n > tape.length() || nets.containsKey(tape.substring(0, n)) || FaultTest.read(tape.substring(0, n))[0] < 0;
    }

    private static void need(boolean holds) {
        if (!holds) {
            throw new IllegalArgumentException();
        }
    }

    private static void needMost(int most) {
        need(most >= 1 && most <= 3000);
    }

    private static void needWhat(int what, int whats) {
        need(what >= 0 && what < whats);
    }

    private void needAct(int act) {
        if (act < 0 || act >= net.acts) {
            throw new NoSuchElementException();
        }
    }

    private void needPlace(int place) {
        if (place < 0 || place >= net.places) {
            throw new IndexOutOfBoundsException();
        }
    }

    int feed(int a, int b, int c, int d, int e) {
        if (tape.length() > 580) {
            return -1;
        }
        for (int number : new int[] {a, b, c, d, e}) {
            byte[] bytes = BigInteger.valueOf(number & 0xFFFFFFFFL | 1L << 32).toByteArray();
            tape += new String(bytes, 1, 4, StandardCharsets.ISO_8859_1);
        }
        return tape.length();
    }

    int net(int n) {
        need(n >= 0 && n <= tape.length());
        String text = tape.substring(0, n);
        int[] read = FaultTest.read(text);
        tape = "";
        faultAt = read[1];
        if (read[0] > 0) {
            net = nets.get(text);
            due = new Oracle(net);
            images.clear();
            row.clear();
        }
        return read[0];
    }

    int fault() {
        return faultAt;
    }

    int told(int what) {
        needWhat(what, 2);
        return what == 0 ? net.places : net.acts;
    }

    int arc(int act, int place, int what) {
        needAct(act);
        needPlace(place);
        needWhat(what, 3);
        return (what == 0 ? net.in : what == 1 ? net.out : net.bar)[act][place];
    }

    int act(int act, int what) {
        needAct(act);
        needWhat(what, 3);
        return what == 0 ? net.cost[act] : what == 1 ? net.lasts[act] : net.conditions.get(act) == null ? 0 : 1;
    }

    int marks(int place, int what) {
        needPlace(place);
        needWhat(what, 2);
        return what == 0 ? due.marks[place] : net.room[place];
    }

    int put(int place, int n) {
        needPlace(place);
        need(n >= 0 && n <= 99 && n <= net.room[place]);
        int was = due.marks[place];
        due.marks[place] = n;
        return was;
    }

    int may(int act) {
        needAct(act);
        return due.errs(act, due.marks);
    }

    int fire(int act) {
        int error = may(act);
        due.marks = error == 0 ? due.behind(act, due.marks) : due.marks;
        return error == 0 ? 1 : -error;
    }

    int row(int act) {
        needAct(act);
        return row.size() < 40 && row.add(act) ? row.size() : -1;
    }

    int clear() {
        int were = row.size();
        row.clear();
        return were;
    }

    int judge() {
        int[] m = due.marks;
        for (int i = 0; i < row.size(); i++) {
            int error = due.errs(row.get(i), m);
            if (error != 0) {
                return 10 * i + error;
            }
            m = due.behind(row.get(i), m);
        }
        return -1;
    }

    int states(int most) {
        needMost(most);
        return due.states(most);
    }

    int state(int most, int k, int place) {
        needPlace(place);
        needMost(most);
        return due.state(most, k, place);
    }

    int dead(int most, int i) {
        needMost(most);
        return due.dead(most, i);
    }

    int lives(int most, int act) {
        needAct(act);
        needMost(most);
        return due.lives(most, act);
    }

    int home(int most, int what) {
        needMost(most);
        needWhat(what, 3);
        return due.home(most, what);
    }

    int most(int most, int place) {
        needPlace(place);
        needMost(most);
        return due.most(most, place);
    }

    int goal(int place, int n) {
        needPlace(place);
        need(n >= 0 && n <= 99);
        int was = due.goals[place];
        due.goals[place] = n;
        return was;
    }

    int way(int most, boolean above) {
        needMost(most);
        return due.way(most, above);
    }

    int step(int most, boolean above, int k) {
        needMost(most);
        return due.step(most, above, k);
    }

    int cheapest(int most, boolean above) {
        needMost(most);
        return due.cheapest(most, above);
    }

    long rows(int most, int n) {
        needMost(most);
        need(n >= 0 && n <= 20);
        return due.rows(most, n);
    }

    int base(int what) {
        needWhat(what, 2);
        return due.base(what == 1).size();
    }

    long kept(int i, int place) {
        needPlace(place);
        needWhat(i, base(0));
        return due.base(false).get(i)[place].longValueExact();
    }

    long round(int i, int act) {
        needAct(act);
        needWhat(i, base(1));
        return due.base(true).get(i)[act].longValueExact();
    }

    boolean never() {
        return due.never();
    }

    int bound(int place) {
        needPlace(place);
        return due.bound(place);
    }

    int growth() {
        return due.growth();
    }

    int siphon(boolean trap, int i) {
        need(i >= 0);
        return due.siphon(trap, i);
    }

    boolean is(int bits, int what) {
        need(bits > 0 && bits < 1 << net.places);
        needWhat(what, 3);
        return what == 2 ? due.guarded(bits) : due.is(bits, what == 1);
    }

    int looks() {
        return net.places == 0 ? 0 : due.looks();
    }

    int once() {
        return due.once();
    }

    boolean two(int act, int other, int what) {
        needAct(act);
        needAct(other);
        needWhat(what, 2);
        need(act != other);
        return due.two(act, other, what);
    }

    int clock(int moments, int place) {
        needPlace(place);
        need(moments >= 0 && moments <= 2000);
        due.clock(moments);
        return due.clockMarks[place];
    }

    int began(int moments, int act) {
        needAct(act);
        need(moments >= 0 && moments <= 2000);
        due.clock(moments);
        return due.clockBegan[act];
    }

    int period(int what) {
        needWhat(what, 2);
        int[] period = due.period();
        return period == null ? -1 : period[what];
    }

    int beat(int act) {
        needAct(act);
        int[] period = due.period();
        return period == null ? -1 : period[2 + act];
    }

    int lots(int n, int seed) {
        need(n >= 1 && n <= 1000);
        due.lots(n, seed);
        return due.lots;
    }

    int lot(int n, int seed, int place) {
        needPlace(place);
        need(n >= 1 && n <= 1000);
        return due.lots(n, seed)[place];
    }

    int often(int most, int act) {
        needAct(act);
        needMost(most);
        return due.often(most, act);
    }

    int needed(int most, boolean above, int act) {
        needAct(act);
        needMost(most);
        return due.needed(most, above, act);
    }

    int deepest(int most, int what) {
        needMost(most);
        needWhat(what, 2);
        return due.deepest(most, what);
    }

    int first(int what) {
        needWhat(what, 3);
        return due.first()[what];
    }

    int alike() {
        return net.places == 0 ? 0 : due.alike();
    }

    int image() {
        if (images.size() == 3) {
            return -1;
        }
        images.add(new Image(due.marks.clone(), due.goals.clone(), new ArrayList<>(row)));
        return images.size();
    }

    int restore() {
        if (images.isEmpty()) {
            return -1;
        }
        Image latest = images.remove(images.size() - 1);
        due.marks = latest.marks;
        due.goals = latest.goals;
        row = latest.row;
        return images.size();
    }

    int count(int what) {
        List<Integer> counts = Arrays.asList(row.size(), images.size(), tape.length());
        return what < 0 || what > 2 ? -1 : counts.get(what);
    }
}
