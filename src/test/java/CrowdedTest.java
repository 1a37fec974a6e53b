import java.math.BigInteger;
import java.util.List;
import java.util.Random;

/** Promises 26 to 29 where numbers grow large: "what is kept whatever is done, as sums of places and rounds of acts, exactly". */
public final class CrowdedTest {
    private static final int NETS = 2000;

    private static long largest;

    public static void main(String[] args) {
        Random chance = new Random(5);
        for (int i = 0; i < NETS && Checks.fine(); i++) {
            int places = 6 + i % 3;
            int acts = 6 + i / 3 % 3;
            Model net = Model.crowded(chance, places, acts);
            TokenHall hall = new TokenHall();
            Checks.same("net of '" + net.text() + "'", Checks.tell(hall, net.text()), places);
            bases(hall, net, false);
            bases(hall, net, true);
            never(hall, net, chance);
        }
        Checks.same("numbers of more than 20 bits stand in some row", largest > 1 << 20, true);
        Checks.end();
    }

    private static void bases(TokenHall hall, Model net, boolean rounds) {
        List<BigInteger[]> rows = new Oracle(net).base(rounds);
        String name = (rounds ? "rounds of '" : "kept of '") + net.text() + "'";
        Checks.same(name, hall.base(rounds ? 1 : 0), rows.size());
        for (int i = 0; i < rows.size() && Checks.fine(); i++) {
            for (int u = 0; u < rows.get(i).length; u++) {
                long due = rows.get(i)[u].longValueExact();
                largest = Math.max(largest, Math.abs(due));
                Checks.same(name + " row " + i, rounds ? hall.round(i, u) : hall.kept(i, u), due);
            }
        }
    }

    /** Marks that acts could bring are not ruled out; one mark more in a place that counts is. */
    private static void never(TokenHall hall, Model net, Random chance) {
        Oracle due = new Oracle(net);
        int act = chance.nextInt(net.acts);
        for (int p = 0; p < net.places; p++) {
            due.marks[p] = 50;
            hall.put(p, 50);
            due.goals[p] = 50 + 3 * (net.out[act][p] - net.in[act][p]);
            hall.goal(p, due.goals[p]);
        }
        Checks.same("never of '" + net.text() + "'", hall.never(), false);
        int place = chance.nextInt(net.places);
        due.goals[place]++;
        hall.goal(place, due.goals[place]);
        Checks.same("never, one more, of '" + net.text() + "'", hall.never(), due.never());
    }
}
