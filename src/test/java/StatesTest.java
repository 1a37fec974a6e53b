/** Promises 15 to 25 and 43 to 45: states, dead ones, knots, ways, costs, rows, often, needed, deepest. */
public final class StatesTest {
    private static final int FULL = -2;

    public static void main(String[] args) {
        order();
        manyStates();
        full();
        deadAndLives();
        homes();
        ways();
        costs();
        rowCounts();
        oftens();
        neededs();
        deepests();
        wrongInputs();
        afterChanges();
        Checks.end();
    }

    /** Marks go round through all places: there are as many states as ways to lay them out. */
    private static String ring(int places, int marks) {
        StringBuilder text = new StringBuilder("place " + marks + ";");
        text.append("place 0;".repeat(places - 1)).append("act 1;".repeat(places));
        for (int i = 0; i < places; i++) {
            text.append("in ").append(i).append(' ').append(i).append(" 1;");
            text.append("out ").append(i).append(' ').append((i + 1) % places).append(" 1;");
        }
        return text.toString();
    }

    private static void order() {
        TokenHall h = Checks.hall("place 2;place 0;place 0;act 0;act 0;in 0 0 1;out 0 1 1;in 1 0 1;out 1 2 1;");
        int[][] due = {{2, 0, 0}, {1, 1, 0}, {1, 0, 1}, {0, 2, 0}, {0, 1, 1}, {0, 0, 2}};
        Checks.same("states", h.states(3000), 6);
        for (int k = 0; k < 6; k++) {
            for (int p = 0; p < 3; p++) {
                Checks.same("state " + k, h.state(6, k, p), due[k][p]);
            }
        }
        Checks.same("state 6", h.state(6, 6, 0), -1);
        Checks.same("state -1", h.state(6, -1, 0), -1);
        Checks.same("state of FULL", h.state(5, 0, 0), FULL);
        Checks.same("state of none, FULL", h.state(5, 99, 0), FULL);
        Checks.same("most", h.most(6, 2), 2);
        Checks.same("most FULL", h.most(5, 2), FULL);
    }

    private static void manyStates() {
        TokenHall h = Checks.hall(ring(8, 6));
        Checks.same("1,716 states", h.states(3000), 1716);
        Checks.same("1,716 of 1,716", h.states(1716), 1716);
        Checks.same("1,716 of 1,715", h.states(1715), FULL);
        Checks.same("homes", h.home(1716, 0), 1716);
        Checks.same("home", h.home(1716, 1), 1);
        Checks.same("knots", h.home(1716, 2), 1);
        Checks.same("lives", h.lives(1716, 7), 2);
        Checks.same("deepest", h.deepest(1716, 0), 42);
        Checks.same("the last one", h.deepest(1716, 1), 1715);
        h.goal(7, 6);
        Checks.same("way to the last", h.way(1716, false), 42);
        Checks.same("its cost", h.cheapest(1716, true), 42);
        Checks.same("its first step", h.step(1716, false, 0), 0);
        Checks.same("its 7th step", h.step(1716, false, 6), 1);
        Checks.same("its last step", h.step(1716, false, 41), 6);
        Checks.same("no step", h.step(1716, false, 42), -1);
        TokenHall line = Checks.hall("place 99;act 0;act 0;in 0 0 1;out 1 0 1;");
        Checks.same("1,000 states", line.states(3000), 1000);
        TokenHall box = Checks.hall("place 0 room 99;place 0 room 29;act 0;act 0;out 0 0 1;out 1 1 1;");
        Checks.same("3,000 states", box.states(3000), 3000);
        Checks.same("the last is dead", box.dead(3000, 0), 2999);
        Checks.same("2,999 are too few", box.states(2999), FULL);
        box = Checks.hall("place 0 room 99;place 0 room 30;act 0;act 0;out 0 0 1;out 1 1 1;");
        Checks.same("3,100 states", box.states(3000), FULL);
    }

    private static void full() {
        TokenHall h = Checks.hall("place 0;act 1;out 0 0 1;");
        Checks.same("one is enough to begin", h.states(1), FULL);
        h.goal(0, 4);
        Checks.same("way among those ahead", h.way(5, false), 4);
        Checks.same("step among those ahead", h.step(5, false, 3), 0);
        Checks.same("way just beyond", h.way(4, false), FULL);
        Checks.same("step just beyond", h.step(4, false, 0), FULL);
        Checks.same("way after more were come to", h.way(900, false), 4);
        Checks.same("way of fewer again", h.way(4, false), FULL);
        Checks.same("cheapest is full", h.cheapest(900, false), FULL);
        Checks.same("rows are full", h.rows(900, 0), FULL);
        Checks.same("needed is full", h.needed(900, false, 0), FULL);
        Checks.same("dead is full", h.dead(900, 0), FULL);
        Checks.same("lives is full", h.lives(900, 0), FULL);
        Checks.same("home is full", h.home(900, 0), FULL);
        Checks.same("often is full", h.often(900, 0), FULL);
        Checks.same("deepest is full", h.deepest(900, 1), FULL);
        Checks.same("1,000 states", h.states(1000), 1000);
        Checks.same("by 3,000 too", h.states(3000), 1000);
        Checks.same("999 is full", h.states(999), FULL);
    }

    private static void deadAndLives() {
        TokenHall h = Checks.hall("place 1;place 0;place 0;act 0;act 0;act 0;act 0;"
                + "in 0 0 1;out 0 1 1;in 1 0 1;out 1 2 1;in 2 2 1;out 2 2 1;in 3 0 5;");
        Checks.same("states", h.states(9), 3);
        Checks.same("dead", h.dead(9, 0), 1);
        Checks.same("one alone", h.dead(9, 1), -1);
        Checks.same("before the first", h.dead(9, -1), -1);
        Checks.same("before the first, FULL", h.dead(2, -1), FULL);
        Checks.same("sometimes", h.lives(9, 0), 1);
        Checks.same("sometimes, in one of two knots", h.lives(9, 2), 1);
        Checks.same("gone", h.lives(9, 3), 0);
        h.fire(1);
        Checks.same("lives", h.lives(9, 2), 2);
        Checks.same("gone now", h.lives(9, 0), 0);
        Checks.same("none dead", h.dead(9, 0), -1);
    }

    private static void homes() {
        TokenHall two = Checks.hall("place 1;place 0;place 0;act 0;act 0;in 0 0 1;out 0 1 1;in 1 0 1;out 1 2 1;");
        Checks.same("two knots", two.home(9, 2), 2);
        Checks.same("no homes", two.home(9, 0), 0);
        Checks.same("nor the first", two.home(9, 1), 0);
        TokenHall one = Checks.hall("place 1;place 0;place 0;act 0;act 0;act 0;in 0 0 1;out 0 1 1;"
                + "in 1 1 1;out 1 2 1;in 2 2 1;out 2 1 1;");
        Checks.same("one knot", one.home(9, 2), 1);
        Checks.same("of two homes", one.home(9, 0), 2);
        Checks.same("not the first", one.home(9, 1), 0);
        one.fire(0);
        Checks.same("now it is one", one.home(9, 1), 1);
        Checks.same("home FULL", one.home(1, 1), FULL);
        Checks.fails("home what", Checks.BAD, () -> one.home(9, 3));
        Checks.fails("home what below", Checks.BAD, () -> one.home(9, -1));
    }

    private static void ways() {
        TokenHall h = Checks.hall("place 1;place 0;place 0;place 0;act 9;act 1;act 1;act 0;"
                + "in 0 0 1;out 0 3 1;in 1 0 1;out 1 1 1;in 2 1 1;out 2 3 1;out 2 2 1;in 3 0 1;out 3 1 1;");
        Checks.same("goal", h.goal(3, 1), 0);
        Checks.same("goal again", h.goal(3, 1), 1);
        Checks.same("just these", h.way(9, false), 1);
        Checks.same("by act 0", h.step(9, false, 0), 0);
        h.goal(2, 1);
        Checks.same("the first of two rows", h.way(9, false), 2);
        Checks.same("the first of two rows", h.step(9, false, 0), 1);
        Checks.same("then act 2", h.step(9, false, 1), 2);
        Checks.same("no step", h.step(9, false, 2), -1);
        Checks.same("no step", h.step(9, false, -1), -1);
        h.goal(3, 0);
        Checks.same("not just these", h.way(9, false), -1);
        Checks.same("no steps", h.step(9, false, 0), -1);
        Checks.same("these and more", h.way(9, true), 2);
        Checks.same("these and more", h.step(9, true, 1), 2);
        h.goal(2, 0);
        Checks.same("nothing asked for, and more", h.way(9, true), 0);
        Checks.same("nothing asked for", h.way(9, false), -1);
        Checks.fails("goal place", Checks.PLACE, () -> h.goal(4, 0));
        Checks.fails("goal 100", Checks.BAD, () -> h.goal(0, 100));
        Checks.fails("goal -1", Checks.BAD, () -> h.goal(0, -1));
        Checks.same("goal beyond the room", Checks.hall("place 0 room 1;act 0;").goal(0, 99), 0);
    }

    private static void costs() {
        TokenHall h = Checks.hall("place 1;place 0;place 0;act 50;act 20;act 29;act 0;"
                + "in 0 0 1;out 0 2 1;in 1 0 1;out 1 1 1;in 2 1 1;out 2 2 1;in 3 2 1;out 3 0 1;");
        h.goal(2, 1);
        Checks.same("the longer row costs less", h.cheapest(9, false), 49);
        Checks.same("the way is shorter", h.way(9, false), 1);
        h.put(0, 2);
        Checks.same("these and more", h.cheapest(9, true), 49);
        h.goal(2, 2);
        Checks.same("twice", h.cheapest(9, false), 98);
        h.goal(2, 3);
        Checks.same("they don't come", h.cheapest(9, false), -1);
        Checks.same("full", h.cheapest(2, true), FULL);
        TokenHall fan = Checks.hall("place 1;place 0;place 0;place 0;place 0;act 10;act 10;act 10;act 5;act 1;"
                + "in 0 0 1;out 0 1 1;in 1 0 1;out 1 2 1;in 2 0 1;out 2 3 1;in 3 0 1;out 3 4 1;in 4 4 1;out 4 2 1;");
        int[] due = {0, 10, 6, 10, 5};
        for (int p = 0; p < 5; p++) {
            fan.goal(p, 1);
            Checks.same("one that becomes cheaper among like ones, " + p, fan.cheapest(9, false), due[p]);
            fan.goal(p, 0);
        }
        StringBuilder dear = new StringBuilder("place 99;place 0;act 99;act 98;act 97;");
        dear.append("in 0 0 1;out 0 1 1;in 1 0 1;out 1 1 1;in 2 0 1;");
        TokenHall far = Checks.hall(dear.toString());
        far.goal(1, 10);
        Checks.same("far, and by buckets", far.cheapest(3000, false), FULL);
        far.put(0, 60);
        Checks.same("far, and by buckets", far.cheapest(3000, false), 10 * 98 + 50 * 97);
    }

    private static void rowCounts() {
        TokenHall free = Checks.hall("place 0;" + "act 0;".repeat(8));
        for (int n = 0; n <= 20; n++) {
            Checks.same("all rows of " + n, free.rows(1, n), 1L << 3 * n);
        }
        TokenHall h = Checks.hall("place 1;place 0;act 0;act 0;act 0;in 0 0 1;out 0 1 1;in 1 1 1;out 1 0 1;in 2 1 1;");
        long[] due = {1, 1, 2, 1, 2, 1};
        for (int n = 0; n < 6; n++) {
            Checks.same("rows of " + n, h.rows(9, n), due[n]);
        }
        Checks.same("rows FULL", h.rows(2, 1), FULL);
        Checks.fails("rows -1", Checks.BAD, () -> h.rows(9, -1));
        Checks.fails("rows 21", Checks.BAD, () -> h.rows(9, 21));
        Checks.fails("rows most", Checks.BAD, () -> h.rows(0, 1));
    }

    private static void oftens() {
        TokenHall h = Checks.hall("place 3;place 0;act 0;act 0;act 0;act 0;in 0 0 1;out 0 1 2;in 1 1 1;in 2 0 2;in 3 0 5;");
        Checks.same("3 times", h.often(99, 0), 3);
        Checks.same("6 times", h.often(99, 1), 6);
        Checks.same("once", h.often(99, 2), 1);
        Checks.same("never", h.often(99, 3), 0);
        TokenHall ring = Checks.hall("place 2;place 0;act 0;act 0;act 0;in 0 0 1;out 0 1 1;in 1 1 1;out 1 0 1;in 2 0 1;");
        Checks.same("without end", ring.often(9, 0), -1);
        Checks.same("twice, with rounds in between", ring.often(9, 2), 2);
        Checks.same("without end in place", Checks.hall("place 1;act 0;in 0 0 1;out 0 0 1;").often(1, 0), -1);
    }

    private static void neededs() {
        TokenHall h = Checks.hall("place 1;place 0;place 0;act 0;act 0;act 0;act 0;"
                + "in 0 0 1;out 0 1 1;in 1 0 1;out 1 1 1;in 2 1 1;out 2 2 1;in 3 2 1;out 3 0 1;");
        h.goal(2, 1);
        Checks.same("one of two", h.needed(9, false, 0), 0);
        Checks.same("the only one", h.needed(9, false, 2), 1);
        Checks.same("not on the way", h.needed(9, true, 3), 0);
        h.goal(2, 2);
        Checks.same("they don't come", h.needed(9, false, 2), -1);
        Checks.same("full", h.needed(2, false, 2), FULL);
        h.goal(2, 0);
        Checks.same("nothing is needed for what is", h.needed(9, true, 2), 0);
        TokenHall open = Checks.hall("place 0;place 0;act 0;act 0;out 0 0 1;out 1 1 1;");
        open.goal(1, 1);
        Checks.same("full of all states", open.needed(3000, false, 0), FULL);
    }

    private static void deepests() {
        TokenHall h = Checks.hall("place 2;place 0;place 0;act 0;act 0;in 0 0 1;out 0 1 1;in 1 0 1;out 1 2 1;");
        Checks.same("two acts", h.deepest(6, 0), 2);
        Checks.same("the first of three", h.deepest(6, 1), 3);
        Checks.same("full", h.deepest(5, 0), FULL);
        Checks.fails("deepest what", Checks.BAD, () -> h.deepest(6, 2));
        Checks.same("nothing goes", Checks.hall("place 0;act 0;").deepest(1, 0), 0);
    }

    private static void wrongInputs() {
        TokenHall h = Checks.hall("place 1;act 0;in 0 0 1;");
        for (int most : new int[] {0, -1, 3001, Integer.MAX_VALUE, Integer.MIN_VALUE}) {
            Checks.fails("states", Checks.BAD, () -> h.states(most));
            Checks.fails("state", Checks.BAD, () -> h.state(most, 0, 0));
            Checks.fails("dead", Checks.BAD, () -> h.dead(most, 0));
            Checks.fails("lives", Checks.BAD, () -> h.lives(most, 0));
            Checks.fails("home", Checks.BAD, () -> h.home(most, 0));
            Checks.fails("most", Checks.BAD, () -> h.most(most, 0));
            Checks.fails("way", Checks.BAD, () -> h.way(most, true));
            Checks.fails("step", Checks.BAD, () -> h.step(most, true, 0));
            Checks.fails("cheapest", Checks.BAD, () -> h.cheapest(most, true));
            Checks.fails("rows", Checks.BAD, () -> h.rows(most, 0));
            Checks.fails("often", Checks.BAD, () -> h.often(most, 0));
            Checks.fails("needed", Checks.BAD, () -> h.needed(most, true, 0));
            Checks.fails("deepest", Checks.BAD, () -> h.deepest(most, 0));
        }
        Checks.fails("state place", Checks.PLACE, () -> h.state(5, 0, 1));
        Checks.fails("most place", Checks.PLACE, () -> h.most(5, -1));
        Checks.fails("lives act", Checks.ACT, () -> h.lives(5, 1));
        Checks.fails("often act", Checks.ACT, () -> h.often(5, -1));
        Checks.fails("needed act", Checks.ACT, () -> h.needed(5, false, 1));
    }

    private static void afterChanges() {
        TokenHall h = Checks.hall("place 3;act 0;in 0 0 1;");
        Checks.same("4 states", h.states(9), 4);
        h.fire(0);
        Checks.same("3 states", h.states(9), 3);
        h.put(0, 5);
        Checks.same("6 states", h.states(9), 6);
        Checks.same("home of 6", h.deepest(9, 1), 5);
        h.image();
        h.put(0, 0);
        Checks.same("1 state", h.states(9), 1);
        h.restore();
        Checks.same("6 states again", h.states(9), 6);
        Checks.same("often 5", h.often(9, 0), 5);
        Checks.tell(h, "place 1;place 1;act 0;act 0;in 0 0 1;in 1 1 1;");
        Checks.same("4 states of another net", h.states(9), 4);
        Checks.same("often 1", h.often(9, 0), 1);
    }
}
