import java.util.ArrayList;
import java.util.Arrays;
import java.util.Collections;
import java.util.List;
import java.util.Random;
import java.util.function.Predicate;

/** A net made by chance, with its text, told in the plainest way; the oracle works on it. */
final class Model {
    int places;
    int acts;
    int[] told;
    int[] room;
    int[] cost;
    int[] lasts;
    int[][] in;
    int[][] out;
    int[][] bar;
    final List<Predicate<int[]>> conditions = new ArrayList<>();
    private final StringBuilder text = new StringBuilder();
    private final Random chance;

    /** How a net is made: how many places and acts at most, how large its numbers are. */
    Model(Random chance, int mostPlaces, int mostActs, int largest) {
        this.chance = chance;
        places = 1 + chance.nextInt(mostPlaces);
        acts = 1 + chance.nextInt(mostActs);
        told = new int[places];
        room = new int[places];
        cost = new int[acts];
        lasts = new int[acts];
        in = new int[acts][places];
        out = new int[acts][places];
        bar = new int[acts][places];
        for (int p = 0; p < places; p++) {
            tellPlace(p, largest);
        }
        for (int t = 0; t < acts; t++) {
            cost[t] = chance.nextInt(4) == 0 ? chance.nextInt(100) : chance.nextInt(3);
            text.append("act ").append(cost[t]).append(blank(";"));
            conditions.add(null);
        }
        boolean flow = chance.nextInt(5) < 3;
        for (int t = 0; t < acts; t++) {
            if (flow) {
                tellFlow(t);
            } else {
                tellArcs(t, largest);
            }
            tellRest(t, largest, flow ? 12 : 5);
        }
    }

    /** No net: no places, no acts. */
    Model() {
        chance = new Random(0);
        told = new int[0];
        room = new int[0];
        cost = new int[0];
        lasts = new int[0];
        in = new int[0][0];
        out = new int[0][0];
        bar = new int[0][0];
    }

    /** As many arcs as a text has clauses for, with numbers as large as can be: what is kept then has large numbers. */
    static Model crowded(Random chance, int places, int acts) {
        Model all = new Model();
        all.places = places;
        all.acts = acts;
        all.told = new int[places];
        all.room = new int[places];
        Arrays.fill(all.room, 999);
        all.cost = new int[acts];
        all.lasts = new int[acts];
        all.in = new int[acts][places];
        all.out = new int[acts][places];
        all.bar = new int[acts][places];
        all.text.append("place 0;".repeat(places)).append("act 0;".repeat(acts));
        List<Integer> cells = new ArrayList<>();
        for (int cell = 0; cell < places * acts; cell++) {
            cells.add(cell);
        }
        Collections.shuffle(cells, chance);
        for (int i = 0; i < Math.min(cells.size(), 60 - places - acts); i++) {
            int t = cells.get(i) / places;
            int p = cells.get(i) % places;
            boolean takes = chance.nextBoolean();
            int n = 3 + chance.nextInt(3);
            (takes ? all.in : all.out)[t][p] = n;
            all.arc(takes ? "in" : "out", t, p, n);
        }
        for (int t = 0; t < acts; t++) {
            all.conditions.add(null);
        }
        return all;
    }

    String text() {
        return text.toString();
    }

    private String blank(String sign) {
        return chance.nextInt(6) == 0 ? " " + sign : sign;
    }

    private void tellPlace(int p, int largest) {
        told[p] = chance.nextInt(4) == 0 ? 0 : chance.nextInt(largest + 1);
        room[p] = 999;
        text.append("place ").append(told[p]);
        if (chance.nextInt(3) == 0) {
            room[p] = Math.max(1, told[p] + chance.nextInt(largest + 1));
            text.append(" room ").append(room[p]);
        }
        text.append(blank(";"));
    }

    private void tellArcs(int t, int largest) {
        int weight = chance.nextInt(3) == 0 ? Math.min(5, largest) : 1;
        for (int p = 0; p < places; p++) {
            if (chance.nextInt(places + 1) < 2 && text.length() < 480) {
                in[t][p] = 1 + chance.nextInt(weight);
                arc("in", t, p, in[t][p]);
            }
            if (chance.nextInt(places + 1) < 2 && text.length() < 480) {
                out[t][p] = 1 + chance.nextInt(weight);
                arc("out", t, p, out[t][p]);
            }
            if (chance.nextInt(12) == 0 && text.length() < 480) {
                bar[t][p] = 1 + chance.nextInt(largest + 1);
                arc("bar", t, p, bar[t][p]);
            }
        }
    }

    /** An act that mostly gives as much as it takes, so that many states come, but not without end. */
    private void tellFlow(int t) {
        int n = chance.nextInt(4) == 0 ? 2 : 1;
        for (int i = 0; i < n && text.length() < 460; i++) {
            int from = chance.nextInt(places);
            int to = chance.nextInt(places);
            in[t][from] = 1 + (chance.nextInt(5) == 0 ? 1 : 0);
            arc("in", t, from, in[t][from]);
            if (chance.nextInt(8) != 0) {
                out[t][to] = chance.nextInt(8) == 0 ? 2 : in[t][from];
                arc("out", t, to, out[t][to]);
            }
        }
        if (chance.nextInt(8) == 0 && text.length() < 480) {
            int p = chance.nextInt(places);
            bar[t][p] = 1 + chance.nextInt(4);
            arc("bar", t, p, bar[t][p]);
        }
    }

    private void tellRest(int t, int largest, int rare) {
        if (chance.nextInt(2) == 0 && text.length() < 480) {
            lasts[t] = chance.nextInt(5);
            text.append("lasts ").append(t).append(' ').append(lasts[t]).append(";");
        }
        if (chance.nextInt(rare) == 0 && text.length() < 420) {
            text.append("if ").append(t).append(' ');
            conditions.set(t, either(0, largest));
            text.append(";");
        }
    }

    private void arc(String word, int t, int p, int n) {
        text.append(word).append(chance.nextInt(4) == 0 ? "" : " ").append(t).append(' ').append(p);
        text.append(' ').append(n).append(blank(";"));
    }

    private interface Sum {
        int of(int[] marks);
    }

    private Predicate<int[]> either(int depth, int largest) {
        Predicate<int[]> one = both(depth, largest);
        if (chance.nextInt(3) != 0 || text.length() > 520) {
            return one;
        }
        text.append(" or ");
        Predicate<int[]> other = both(depth, largest);
        return m -> one.test(m) || other.test(m);
    }

    private Predicate<int[]> both(int depth, int largest) {
        Predicate<int[]> one = single(depth, largest);
        if (chance.nextInt(3) != 0 || text.length() > 520) {
            return one;
        }
        text.append(" and ");
        Predicate<int[]> other = single(depth, largest);
        return m -> one.test(m) && other.test(m);
    }

    private Predicate<int[]> single(int depth, int largest) {
        int kind = depth >= 4 || text.length() > 500 ? 9 : chance.nextInt(6);
        if (kind == 0) {
            text.append("not ");
            return single(depth + 1, largest).negate();
        }
        if (kind == 1) {
            text.append("[");
            Predicate<int[]> inner = either(depth + 1, largest);
            text.append("]");
            return inner;
        }
        Sum left = sum(depth, largest);
        int sign = chance.nextInt(3);
        text.append(blank(String.valueOf("<>=".charAt(sign))));
        Sum right = sum(depth, largest);
        if (sign == 0) {
            return m -> left.of(m) < right.of(m);
        }
        return sign == 1 ? m -> left.of(m) > right.of(m) : m -> left.of(m) == right.of(m);
    }

    private Sum sum(int depth, int largest) {
        Sum one = unit(depth, largest);
        for (int i = 0; i < 2 && chance.nextInt(3) == 0 && text.length() < 520; i++) {
            boolean plus = chance.nextBoolean();
            text.append(plus ? "+" : " - ");
            Sum left = one;
            Sum right = unit(depth, largest);
            one = plus ? m -> left.of(m) + right.of(m) : m -> left.of(m) - right.of(m);
        }
        return one;
    }

    private Sum unit(int depth, int largest) {
        int kind = chance.nextInt(depth >= 5 || text.length() > 500 ? 2 : 5);
        if (kind == 0 || kind == 2) {
            int p = chance.nextInt(places);
            text.append(" marks ").append(p);
            return m -> m[p];
        }
        if (kind == 4) {
            text.append("(");
            Sum inner = sum(depth + 1, largest);
            text.append(")");
            return inner;
        }
        int n = chance.nextInt(largest + 2);
        text.append(n);
        return m -> n;
    }
}
