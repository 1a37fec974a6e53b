import java.math.BigInteger;
import java.util.List;
import java.util.Random;

/** All promises on nets made by chance (always the same ones), judged by the oracle. */
public final class OracleTest {
    private static final int NETS = 1500;
    private static final int FULL = -2;

    private final Random chance;
    private final Model net;
    private final Oracle due;
    private final TokenHall hall;
    private final String name;

    /** The same hall hears several nets, so that nothing of an older one may stay in it. */
    private OracleTest(int seed, TokenHall hall) {
        chance = new Random(seed);
        int[] places = {3, 5, 8};
        int[] largest = {1, 2, 4};
        net = new Model(chance, places[seed % 3], 2 + seed % 7, largest[seed / 3 % 3]);
        due = new Oracle(net);
        name = seed + " '" + net.text() + "' ";
        this.hall = hall;
        Checks.same(name + "net", Checks.tell(hall, net.text()), net.places);
    }

    public static void main(String[] args) {
        int from = args.length > 0 ? Integer.parseInt(args[0]) : 0;
        int to = args.length > 1 ? Integer.parseInt(args[1]) : NETS;
        TokenHall hall = new TokenHall();
        for (int seed = from; seed < to && Checks.fine(); seed++) {
            hall = seed % 10 == 0 ? new TokenHall() : hall;
            new OracleTest(seed, hall).run();
        }
        Checks.end();
    }

    private void run() {
        asTold();
        for (int i = 0; i < 3; i++) {
            change();
            now();
            searches();
            aims();
            wholes();
            walks();
        }
    }

    private void asTold() {
        Checks.same(name + "told", hall.told(0) * 10 + hall.told(1), net.places * 10 + net.acts);
        for (int t = 0; t < net.acts; t++) {
            Checks.same(name + "cost", hall.act(t, 0), net.cost[t]);
            Checks.same(name + "lasts", hall.act(t, 1), net.lasts[t]);
            Checks.same(name + "condition", hall.act(t, 2), net.conditions.get(t) == null ? 0 : 1);
            for (int p = 0; p < net.places; p++) {
                Checks.same(name + "in", hall.arc(t, p, 0), net.in[t][p]);
                Checks.same(name + "out", hall.arc(t, p, 1), net.out[t][p]);
                Checks.same(name + "bar", hall.arc(t, p, 2), net.bar[t][p]);
            }
        }
        for (int p = 0; p < net.places; p++) {
            Checks.same(name + "marks", hall.marks(p, 0), net.told[p]);
            Checks.same(name + "room", hall.marks(p, 1), net.room[p]);
        }
        Checks.same(name + "looks", hall.looks(), due.looks());
        Checks.same(name + "alike", hall.alike(), net.places > 6 ? hall.alike() : due.alike());
        bases(false);
        bases(true);
    }

    private void bases(boolean rounds) {
        List<BigInteger[]> rows = due.base(rounds);
        Checks.same(name + "base", hall.base(rounds ? 1 : 0), rows.size());
        for (int i = 0; i < rows.size() && Checks.fine(); i++) {
            for (int u = 0; u < rows.get(i).length; u++) {
                long got = rounds ? hall.round(i, u) : hall.kept(i, u);
                Checks.same(name + "base row " + i, got, rows.get(i)[u].longValueExact());
            }
        }
    }

    private void change() {
        for (int i = 0; i < 4; i++) {
            int t = chance.nextInt(net.acts);
            int error = due.errs(t, due.marks);
            Checks.same(name + "may", hall.may(t), error);
            Checks.same(name + "fire", hall.fire(t), error == 0 ? 1 : -error);
            due.marks = error == 0 ? due.behind(t, due.marks) : due.marks;
        }
        if (chance.nextInt(2) == 0) {
            int p = chance.nextInt(net.places);
            int n = chance.nextInt(Math.min(net.room[p], 3) + 1);
            Checks.same(name + "put", hall.put(p, n), due.marks[p]);
            due.marks[p] = n;
        }
        int[] aim = chance.nextBoolean() ? due.marks.clone() : due.lots(1 + chance.nextInt(6), chance.nextInt());
        for (int p = 0; p < net.places; p++) {
            int n = chance.nextInt(8) == 0 ? chance.nextInt(4) : Math.min(99, aim[p]);
            Checks.same(name + "goal", hall.goal(p, n), due.goals[p]);
            due.goals[p] = n;
        }
    }

    private void now() {
        for (int p = 0; p < net.places; p++) {
            Checks.same(name + "marks now", hall.marks(p, 0), due.marks[p]);
        }
        Checks.same(name + "never", hall.never(), due.never());
        Checks.same(name + "once", hall.once(), due.once());
        for (int i = 0; i < 6; i++) {
            int bits = 1 + chance.nextInt((1 << net.places) - 1);
            Checks.same(name + "is 0 " + bits, hall.is(bits, 0), due.is(bits, false));
            Checks.same(name + "is 1 " + bits, hall.is(bits, 1), due.is(bits, true));
            Checks.same(name + "is 2 " + bits, hall.is(bits, 2), due.guarded(bits));
            Checks.same(name + "siphon " + i, hall.siphon(false, i), due.siphon(false, i));
            Checks.same(name + "trap " + i, hall.siphon(true, i), due.siphon(true, i));
            int a = chance.nextInt(net.acts);
            int b = chance.nextInt(net.acts);
            if (a != b) {
                Checks.same(name + "two 0", hall.two(a, b, 0), due.two(a, b, 0));
                Checks.same(name + "two 1", hall.two(a, b, 1), due.two(a, b, 1));
            }
        }
        judged();
    }

    private void judged() {
        hall.clear();
        int[] m = due.marks;
        int answer = -1;
        for (int i = 0; i < 8; i++) {
            int t = chance.nextInt(net.acts);
            for (int tries = 0; tries < 4 && due.errs(t, m) != 0; tries++) {
                t = chance.nextInt(net.acts);
            }
            Checks.same(name + "row", hall.row(t), i + 1);
            if (answer == -1 && due.errs(t, m) != 0) {
                answer = 10 * i + due.errs(t, m);
            }
            m = due.behind(t, m);
        }
        Checks.same(name + "judge", hall.judge(), answer);
    }

    private int someMost() {
        int n = due.states(60);
        int[] choices = {1 + chance.nextInt(60), 60, n == FULL ? 60 : n, n == FULL ? 59 : Math.max(1, n - 1)};
        return choices[Math.max(0, chance.nextInt(6) - 2)];
    }

    private void searches() {
        boolean above = chance.nextBoolean();
        int most = someMost();
        int act = chance.nextInt(net.acts);
        int place = chance.nextInt(net.places);
        int k = chance.nextInt(chance.nextBoolean() ? 62 : 10) - 1;
        String here = name + "most " + most + " ";
        Checks.same(here + "states", hall.states(most), due.states(most));
        Checks.same(here + "way", hall.way(most, above), due.way(most, above));
        for (int i = -1; i < 6; i++) {
            Checks.same(here + "step", hall.step(most, above, i), due.step(most, above, i));
        }
        most = someMost();
        Checks.same(here + "state", hall.state(most, k, place), due.state(most, k, place));
        Checks.same(here + "dead", hall.dead(most, k % 3), due.dead(most, k % 3));
        Checks.same(here + "lives", hall.lives(most, act), due.lives(most, act));
        most = someMost();
        for (int what = 0; what < 3; what++) {
            Checks.same(here + "home", hall.home(most, what), due.home(most, what));
        }
        Checks.same(here + "most", hall.most(most, place), due.most(most, place));
        Checks.same(here + "cheapest", hall.cheapest(most, above), due.cheapest(most, above));
        Checks.same(here + "rows", hall.rows(most, k % 21 + (k < 0 ? 1 : 0)), due.rows(most, k % 21 + (k < 0 ? 1 : 0)));
        most = someMost();
        Checks.same(here + "often", hall.often(most, act), due.often(most, act));
        Checks.same(here + "needed", hall.needed(most, above, act), due.needed(most, above, act));
        Checks.same(here + "deepest 0", hall.deepest(most, 0), due.deepest(most, 0));
        Checks.same(here + "deepest 1", hall.deepest(most, 1), due.deepest(most, 1));
    }

    /** To each of some states that come, and to none that does. */
    private void aims() {
        List<int[]> states = due.come(60, -1);
        for (int i = 0; i < 5; i++) {
            int[] aim = states.get(chance.nextInt(states.size()));
            for (int p = 0; p < net.places; p++) {
                due.goals[p] = Math.min(99, aim[p]);
                hall.goal(p, due.goals[p]);
            }
            Checks.same(name + "cheapest to a state", hall.cheapest(60, false), due.cheapest(60, false));
            Checks.same(name + "way to a state", hall.way(60, false), due.way(60, false));
            for (int t = 0; t < net.acts; t++) {
                Checks.same(name + "needed for a state", hall.needed(60, true, t), due.needed(60, true, t));
            }
        }
    }

    private void wholes() {
        int place = chance.nextInt(net.places);
        Checks.same(name + "growth", hall.growth(), due.growth());
        Checks.same(name + "bound", hall.bound(place), due.bound(place));
    }

    private void walks() {
        int moments = chance.nextInt(chance.nextBoolean() ? 12 : 2001);
        due.clock(moments);
        for (int p = 0; p < net.places; p++) {
            Checks.same(name + "clock " + moments, hall.clock(moments, p), due.clockMarks[p]);
        }
        for (int t = 0; t < net.acts; t++) {
            Checks.same(name + "began " + moments, hall.began(moments, t), due.clockBegan[t]);
        }
        int[] period = due.period();
        Checks.same(name + "period 0", hall.period(0), period == null ? -1 : period[0]);
        Checks.same(name + "period 1", hall.period(1), period == null ? -1 : period[1]);
        for (int t = 0; t < net.acts; t++) {
            Checks.same(name + "beat", hall.beat(t), period == null ? -1 : period[2 + t]);
        }
        int n = 1 + chance.nextInt(30);
        int seed = chance.nextInt();
        int[] m = due.lots(n, seed);
        Checks.same(name + "lots", hall.lots(n, seed), due.lots);
        for (int p = 0; p < net.places; p++) {
            Checks.same(name + "lot", hall.lot(n, seed, p), m[p]);
        }
        int[] first = due.first();
        for (int what = 0; what < 3; what++) {
            Checks.same(name + "first", hall.first(what), first[what]);
        }
    }
}
