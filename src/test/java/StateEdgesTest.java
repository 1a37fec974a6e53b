import java.util.LinkedHashMap;
import java.util.Map;
import java.util.function.BiConsumer;

/** The edges of states, ways and numbers of rows (==== 2. of the document), and of promises 15 to 25. */
public final class StateEdgesTest {
    private static final int NONE = -1;
    private static final int FULL = -2;
    private static final int[] NO_NUMBERS = {-1, 2, 8, Integer.MIN_VALUE, Integer.MAX_VALUE};
    /** Two marks go to one of two places each: 6 states. */
    private static final String FORK =
            "place 2;place 0;place 0;act 0;act 0;in 0 0 1;out 0 1 1;in 1 0 1;out 1 2 1;";

    public static void main(String[] args) {
        theToldNumber();
        oneState();
        threeThousand();
        roundAndRound();
        fewerThanBefore();
        fullOrNot();
        orderOfStates();
        marksInStates();
        deadStates();
        livesOfActs();
        homesAndKnots();
        mostOfPlaces();
        goals();
        ways();
        theFirstOfTheseRows();
        wayAheadOfFull();
        steps();
        costs();
        costFull();
        rowsOfActs();
        rowsFull();
        nothingChanges();
        Checks.end();
    }

    /** Marks that come one by one: just so many states, each behind the one ahead of it. */
    static String chain(int states) {
        StringBuilder text = new StringBuilder();
        int left = states - 1;
        int places = 0;
        for (; left > 999; left -= 999) {
            text.append("place 0;");
            places++;
        }
        // The last place is given marks until just this many are there.
        text.append("place 0;").append("act 1;".repeat(places + 1));
        for (int p = 0; p <= places; p++) {
            text.append("out ").append(p).append(' ').append(p).append(" 1;");
        }
        for (int p = 1; p < places; p++) {
            text.append("if ").append(p).append(" marks ").append(p - 1).append("=999;");
        }
        text.append("if ").append(places).append(" marks ").append(places).append('<').append(left);
        return text.append(places == 0 ? ";" : " and marks " + (places - 1) + "=999;").toString();
    }

    private static Map<String, BiConsumer<TokenHall, Integer>> callsWithMost() {
        Map<String, BiConsumer<TokenHall, Integer>> calls = new LinkedHashMap<>();
        calls.put("states", (h, most) -> h.states(most));
        calls.put("state", (h, most) -> h.state(most, 0, 0));
        calls.put("dead", (h, most) -> h.dead(most, 0));
        calls.put("lives", (h, most) -> h.lives(most, 0));
        calls.put("home", (h, most) -> h.home(most, 0));
        calls.put("most", (h, most) -> h.most(most, 0));
        calls.put("way", (h, most) -> h.way(most, true));
        calls.put("step", (h, most) -> h.step(most, true, 0));
        calls.put("cheapest", (h, most) -> h.cheapest(most, true));
        calls.put("rows", (h, most) -> h.rows(most, 0));
        calls.put("often", (h, most) -> h.often(most, 0));
        calls.put("needed", (h, most) -> h.needed(most, true, 0));
        calls.put("deepest", (h, most) -> h.deepest(most, 0));
        return calls;
    }

    private static void theToldNumber() {
        Checks.of("IllegalArgumentException: the told number (so below, \"most\")");
        callsWithMost().forEach((name, call) -> {
            for (int most : new int[] {0, -1, 3001, Integer.MIN_VALUE, Integer.MAX_VALUE}) {
                Checks.refused(name + " of " + most, Checks.BAD, h -> call.accept(h, most));
            }
            call.accept(Checks.busy(), 1);
            call.accept(Checks.busy(), 3000);
        });
        for (int most : new int[] {0, -1, 3001}) {
            Checks.refusedWithoutNet("states of " + most, Checks.BAD, h -> h.states(most));
        }
    }

    private static void oneState() {
        Checks.of("COME can, from those as they are on, those behind any ACTS that MAY be done");
        TokenHall still = Checks.hall("place 5;act 0;in 0 0 1;out 0 0 1;");
        Checks.same("one state", still.states(1), 1);
        Checks.same("one state of 3,000", still.states(3000), 1);
        TokenHall dead = Checks.hall("place 0;act 0;in 0 0 1;");
        Checks.same("nothing may be done", dead.states(1), 1);
        TokenHall two = Checks.hall("place 1;act 0;in 0 0 1;");
        Checks.same("two are more than 1", two.states(1), FULL);
        Checks.same("two", two.states(2), 2);
        two.fire(0);
        Checks.same("from those as they are", two.states(1), 1);
        Checks.same("bars, conditions and rooms count",
                Checks.hall("place 0 room 3;act 0;act 0;act 0;out 0 0 1;out 1 0 2;bar 1 0 1;out 2 0 1;if 2 1=2;").states(9), 4);
    }

    private static void threeThousand() {
        Checks.of("FULL: more than a told number (1 to 3,000) would come");
        Checks.same("2,999 of 3,000", Checks.hall(chain(2999)).states(3000), 2999);
        Checks.same("3,000 of 3,000", Checks.hall(chain(3000)).states(3000), 3000);
        Checks.same("3,001 of 3,000", Checks.hall(chain(3001)).states(3000), FULL);
        Checks.same("3,000 of 2,999", Checks.hall(chain(3000)).states(2999), FULL);
        Checks.same("the last of 3,000", Checks.hall(chain(3000)).dead(3000, 0), 2999);
        Checks.same("1,001", Checks.hall(chain(1001)).states(1001), 1001);
        TokenHall box = Checks.hall("place 0 room 99;place 0 room 29;act 0;act 0;out 0 0 1;out 1 1 1;");
        Checks.same("3,000 at many depths", box.states(3000), 3000);
        Checks.same("one fewer", box.states(2999), FULL);
    }

    /** 8 places in a ring, 6 marks: 1,716 states, each of which can be come to from all. */
    private static void roundAndRound() {
        Checks.of("HOME is a STATE that can be come to from all");
        StringBuilder text = new StringBuilder("place 6;" + "place 0;".repeat(7) + "act 1;".repeat(8));
        for (int i = 0; i < 8; i++) {
            text.append("in ").append(i).append(' ').append(i).append(" 1;");
            text.append("out ").append(i).append(' ').append((i + 1) % 8).append(" 1;");
        }
        TokenHall h = Checks.hall(text.toString());
        Checks.same("one too few", h.states(1715), FULL);
        Checks.same("just so many", h.states(1716), 1716);
        Checks.same("all are home", h.home(1716, 0), 1716);
        Checks.same("as they are", h.home(1716, 1), 1);
        Checks.same("one knot", h.home(1716, 2), 1);
        Checks.same("none is dead", h.dead(1716, 0), NONE);
        for (int act = 0; act < 8; act++) {
            Checks.same("all live", h.lives(1716, act), 2);
            Checks.same("without end", h.often(1716, act), NONE);
        }
        Checks.same("the deepest", h.deepest(1716, 0), 42);
        h.goal(7, 6);
        Checks.same("the way there", h.way(1716, false), 42);
        Checks.same("its cost", h.cheapest(1716, false), 42);
        Checks.same("the last act but one is needed", h.needed(1716, false, 6), 1);
        Checks.same("the last act is not", h.needed(1716, false, 7), 0);
        h.goal(7, 5);
        Checks.same("none such", h.cheapest(1716, false), NONE);
        Checks.same("none such, again", h.cheapest(1716, false), NONE);
    }

    /** States of a greater number than now are seen in no answer. */
    private static void fewerThanBefore() {
        Checks.of("COME can, from those as they are on");
        TokenHall h = Checks.hall("place 9;act 1;in 0 0 1;");
        Checks.same("ten", h.states(10), 10);
        Checks.same("nine deep", h.deepest(10, 0), 9);
        h.goal(0, 7);
        Checks.same("two to 7", h.way(10, false), 2);
        Checks.same("cost 2", h.cheapest(10, false), 2);
        Checks.same("often 9", h.often(10, 0), 9);
        h.put(0, 1);
        Checks.same("two", h.states(10), 2);
        Checks.same("no 7", h.way(10, false), NONE);
        Checks.same("no 7 or more", h.way(10, true), NONE);
        Checks.same("no cost of 7", h.cheapest(10, false), NONE);
        Checks.same("not needed for 7", h.needed(10, false, 0), NONE);
        Checks.same("one deep", h.deepest(10, 0), 1);
        Checks.same("state 1", h.deepest(10, 1), 1);
        Checks.same("no state 2", h.state(10, 2, 0), NONE);
        Checks.same("one dead", h.dead(10, 0), 1);
        Checks.same("no other", h.dead(10, 1), NONE);
        Checks.same("most 1", h.most(10, 0), 1);
        Checks.same("often 1", h.often(10, 0), 1);
        Checks.same("one knot", h.home(10, 2), 1);
        Checks.same("one row of 1", h.rows(10, 1), 1);
        Checks.same("none of 2", h.rows(10, 2), 0);
    }

    private static void fullOrNot() {
        Checks.of("FULL");
        for (int most = 1; most <= 8; most++) {
            int due = most < 6 ? FULL : 6;
            TokenHall h = Checks.hall(FORK);
            Checks.same("states by " + most, h.states(most), due);
            Checks.same("again", h.states(most), due);
            Checks.same("by 6 behind it", h.states(6), 6);
            Checks.same("by 5 behind it", h.states(5), FULL);
            Checks.same("by " + most + " behind it", h.states(most), due);
        }
    }

    private static void orderOfStates() {
        Checks.of("looked at one by one in the order in which they are come to, the ACTS of each by number");
        int[][] due = {{2, 0, 0}, {1, 1, 0}, {1, 0, 1}, {0, 2, 0}, {0, 1, 1}, {0, 0, 2}};
        TokenHall h = Checks.hall(FORK);
        for (int k = 0; k < 6; k++) {
            for (int p = 0; p < 3; p++) {
                Checks.same("state " + k + " place " + p, h.state(6, k, p), due[k][p]);
            }
        }
        Checks.of("They are numbered so (0: as they are)");
        h.fire(1);
        Checks.same("0 is as they are", h.state(6, 0, 2), 1);
        Checks.same("1 is by act 0", h.state(6, 1, 1), 1);
        Checks.same("2 is by act 1", h.state(6, 2, 2), 2);
        Checks.same("three are left", h.states(6), 3);
    }

    private static void marksInStates() {
        Checks.of("MARKS of a PLACE in a STATE. FULL as above; NONE: no such STATE.");
        TokenHall h = Checks.hall(FORK);
        Checks.same("the last", h.state(6, 5, 2), 2);
        Checks.same("one beyond", h.state(6, 6, 2), NONE);
        Checks.same("one below", h.state(6, -1, 2), NONE);
        Checks.same("far beyond", h.state(6, Integer.MAX_VALUE, 0), NONE);
        Checks.same("far below", h.state(6, Integer.MIN_VALUE, 0), NONE);
        Checks.same("FULL, of one that came", h.state(5, 0, 0), FULL);
        Checks.same("FULL, of none such", h.state(5, 6, 0), FULL);
        Checks.same("FULL, below", h.state(5, -1, 0), FULL);
        Checks.same("not FULL behind that", h.state(3000, 4, 1), 1);
        for (int place : NO_NUMBERS) {
            Checks.refused("state of place " + place, Checks.PLACE, x -> x.state(9, 0, place));
        }
    }

    private static void deadStates() {
        Checks.of("The i-th DEAD STATE; NONE: there are not so many; FULL.");
        TokenHall h = Checks.hall(FORK);
        for (int i = 0; i < 3; i++) {
            Checks.same("dead " + i, h.dead(6, i), 3 + i);
        }
        Checks.same("one beyond", h.dead(6, 3), NONE);
        Checks.same("one below", h.dead(6, -1), NONE);
        Checks.same("far beyond", h.dead(6, Integer.MAX_VALUE), NONE);
        Checks.same("far below", h.dead(6, Integer.MIN_VALUE), NONE);
        Checks.same("FULL", h.dead(5, 0), FULL);
        Checks.same("FULL, of none such", h.dead(5, 9), FULL);
        Checks.same("none at all", Checks.busy().dead(9, 0), NONE);
        Checks.same("that as they are", Checks.hall("place 0;act 0;in 0 0 1;").dead(1, 0), 0);
        Checks.same("an act that changes nothing may still be done", Checks.hall("place 0;act 0;").dead(1, 0), NONE);
    }

    private static void livesOfActs() {
        Checks.of("Of an ACT: 0 GONE, 1 SOMETIMES, 2 LIVES; FULL.");
        TokenHall h = Checks.hall("place 1;place 0;place 0;act 0;act 0;act 0;act 0;act 0;"
                + "in 0 0 1;out 0 1 1;in 1 1 1;out 1 2 1;in 2 2 1;out 2 1 1;in 3 0 2;in 4 2 1;out 4 2 1;");
        int[] due = {1, 2, 2, 0, 2};
        for (int act = 0; act < 5; act++) {
            Checks.same("act " + act, h.lives(3, act), due[act]);
            Checks.same("act " + act + ", FULL", h.lives(2, act), FULL);
        }
        h.fire(0);
        Checks.same("gone from here", h.lives(3, 0), 0);
        TokenHall fork = Checks.hall(FORK + "act 0;in 2 1 2;out 2 1 2;");
        Checks.same("in one of the dead ends alone", fork.lives(6, 2), 1);
        for (int act : NO_NUMBERS) {
            Checks.refused("lives of act " + act, Checks.ACT, x -> x.lives(9, act));
        }
    }

    private static void homesAndKnots() {
        Checks.of("How many STATES are HOME (what 0), whether that as they are is one (1), KNOTS (2); FULL.");
        int[][] due = {{0, 0, 3}, {3, 1, 1}, {1, 0, 1}};
        String[] texts = {FORK, "place 2;place 0;act 0;act 0;in 0 0 1;out 0 1 1;in 1 1 1;out 1 0 1;", "place 2;act 0;in 0 0 1;"};
        int[] states = {6, 3, 3};
        for (int i = 0; i < 3; i++) {
            TokenHall h = Checks.hall(texts[i]);
            for (int what = 0; what < 3; what++) {
                Checks.same("home " + what + " of net " + i, h.home(states[i], what), due[i][what]);
                Checks.same("home " + what + " of net " + i + ", FULL", h.home(states[i] - 1, what), FULL);
            }
        }
        for (int what : new int[] {-1, 3, Integer.MIN_VALUE, Integer.MAX_VALUE}) {
            Checks.refused("home what " + what, Checks.BAD, x -> x.home(9, what));
            Checks.refused("home what " + what + ", FULL", Checks.BAD, x -> x.home(1, what));
        }
    }

    private static void mostOfPlaces() {
        Checks.of("MOST of a PLACE: in any STATE");
        TokenHall h = Checks.hall("place 3;place 0;place 0;act 0;act 0;in 0 0 3;out 0 1 5;in 1 1 4;out 1 2 1;");
        int[] due = {3, 5, 1};
        for (int p = 0; p < 3; p++) {
            Checks.same("most of " + p, h.most(3, p), due[p]);
            Checks.same("most of " + p + ", FULL", h.most(2, p), FULL);
        }
        Checks.same("none ever", Checks.hall("place 0;act 0;").most(1, 0), 0);
        Checks.same("999", Checks.hall("place 0;act 0;out 0 0 1;").most(1000, 0), 999);
        for (int place : NO_NUMBERS) {
            Checks.refused("most of place " + place, Checks.PLACE, x -> x.most(9, place));
        }
    }

    private static void goals() {
        Checks.of("MARKS that are asked for, of a PLACE (0 to 99; 0 at first, and by net()): what was.");
        TokenHall h = Checks.hall("place 5 room 6;place 7;act 0;");
        int was = 0;
        for (int n : new int[] {0, 1, 98, 99, 99, 7}) {
            Checks.same("goal " + n, h.goal(0, n), was);
            was = n;
        }
        Checks.same("the other place's", h.goal(1, 3), 0);
        Checks.same("marks are no matter", h.marks(0, 0), 5);
        Checks.tell(h, "place 5;place 7;act 0;");
        Checks.same("by net()", h.goal(0, 0), 0);
        Checks.same("by net(), the other", h.goal(1, 0), 0);
        for (int n : new int[] {-1, 100, Integer.MIN_VALUE, Integer.MAX_VALUE}) {
            Checks.refused("goal of " + n, Checks.BAD, x -> x.goal(1, n));
        }
        for (int place : NO_NUMBERS) {
            Checks.refused("goal of place " + place, Checks.PLACE, x -> x.goal(place, 0));
        }
    }

    private static void ways() {
        Checks.of("WAY to told MARKS (just these; or these and more in each PLACE): the fewest ACTS");
        TokenHall h = Checks.hall("place 0;place 3;act 0;act 0;out 0 0 1;bar 0 0 5;out 1 0 3;bar 1 0 1;");
        h.goal(0, 3);
        Checks.same("just these, not in the other place", h.way(9, false), NONE);
        h.goal(1, 3);
        Checks.same("by the greater step", h.way(9, false), 1);
        h.goal(1, 2);
        Checks.same("more in the other place", h.way(9, true), 1);
        h.goal(1, 4);
        Checks.same("fewer in the other place", h.way(9, true), NONE);
        h.goal(1, 3);
        h.goal(0, 2);
        Checks.same("just two", h.way(9, false), 2);
        Checks.same("two or more", h.way(9, true), 1);
        h.goal(0, 0);
        Checks.same("as they are", h.way(9, false), 0);
        Checks.same("as they are, or more", h.way(9, true), 0);
        h.goal(0, 5);
        Checks.same("the last", h.way(9, false), 3);
        h.goal(0, 6);
        Checks.same("one beyond", h.way(9, true), NONE);
    }

    private static void theFirstOfTheseRows() {
        Checks.of("of these rows the first (ACT by ACT)");
        TokenHall h = Checks.hall("place 1;place 0;place 0;place 0;act 0;act 0;act 0;act 0;act 0;"
                + "in 0 1 1;out 0 2 1;in 1 0 1;out 1 1 1;in 2 0 1;out 2 3 1;in 3 3 1;out 3 2 1;in 4 1 1;out 4 2 1;");
        h.goal(2, 1);
        Checks.same("two acts", h.way(9, false), 2);
        Checks.same("the lesser of 1 and 2", h.step(9, false, 0), 1);
        Checks.same("behind it the lesser of 0 and 4", h.step(9, false, 1), 0);
        TokenHall late = Checks.hall("place 1;place 0;place 0;place 0;act 0;act 0;act 0;act 0;"
                + "in 0 3 1;out 0 2 1;in 1 0 1;out 1 1 1;in 2 0 1;out 2 3 1;in 3 1 1;out 3 2 1;");
        late.goal(2, 1);
        Checks.same("1 and 3 ahead of 2 and 0", late.step(9, false, 0), 1);
        Checks.same("1 and 3 ahead of 2 and 0", late.step(9, false, 1), 3);
    }

    private static void wayAheadOfFull() {
        Checks.of("NONE: they don't COME; FULL (if they are not among those that came ahead of it, too)");
        for (int most = 1; most <= 7; most++) {
            TokenHall h = Checks.hall(FORK);
            h.goal(1, 1);
            h.goal(2, 1);
            Checks.same("state 4 by " + most, h.way(most, false), most < 5 ? FULL : 2);
            Checks.same("state 4, or more, by " + most, h.way(most, true), most < 5 ? FULL : 2);
            Checks.same("its step by " + most, h.step(most, false, 1), most < 5 ? FULL : 1);
            h.goal(2, 2);
            Checks.same("none by " + most, h.way(most, true), most < 6 ? FULL : NONE);
        }
        TokenHall far = Checks.hall(chain(3001));
        far.goal(0, 1);
        Checks.same("ahead of FULL", far.way(2, false), 1);
        Checks.same("at the very number", far.way(1, false), FULL);
        Checks.same("as they are, by 1", Checks.busy().way(1, true), FULL);
        TokenHall zero = Checks.hall(chain(3001));
        Checks.same("as they are, ahead of FULL", zero.way(1, false), 0);
    }

    private static void steps() {
        Checks.of("The k-th ACT of that WAY; NONE: none such; FULL.");
        TokenHall h = Checks.hall(FORK);
        h.goal(1, 1);
        h.goal(2, 1);
        Checks.same("of two rows the first", h.step(6, false, 0), 0);
        Checks.same("then the other", h.step(6, false, 1), 1);
        Checks.same("one beyond", h.step(6, false, 2), NONE);
        Checks.same("one below", h.step(6, false, -1), NONE);
        Checks.same("far beyond", h.step(6, false, Integer.MAX_VALUE), NONE);
        Checks.same("far below", h.step(6, false, Integer.MIN_VALUE), NONE);
        h.goal(1, 0);
        Checks.same("above: the one step", h.step(6, true, 0), 1);
        Checks.same("above: no more", h.step(6, true, 1), NONE);
        h.goal(2, 3);
        Checks.same("no way", h.step(6, true, 0), NONE);
        Checks.same("FULL", h.step(5, true, 0), FULL);
        Checks.same("FULL, of none such", h.step(5, true, -1), FULL);
        TokenHall long40 = Checks.hall("place 0;act 0;out 0 0 1;");
        long40.goal(0, 99);
        Checks.same("a way longer than a row", long40.way(100, false), 99);
        Checks.same("its last step", long40.step(100, false, 98), 0);
        Checks.same("beyond its last step", long40.step(100, false, 99), NONE);
    }

    private static void costs() {
        Checks.of("CHEAPEST: the least COST");
        String text = "place 1;place 0;place 0;act 99;act 49;act 49;act 0;"
                + "in 0 0 1;out 0 2 1;in 1 0 1;out 1 1 1;in 2 1 1;out 2 2 1;in 3 2 1;out 3 1 1;";
        TokenHall h = Checks.hall(text);
        h.goal(2, 1);
        Checks.same("two acts cost one less than one", h.cheapest(3, false), 98);
        TokenHall dear = Checks.hall(text.replace("act 49;act 49;", "act 49;act 51;"));
        dear.goal(2, 1);
        Checks.same("two acts cost one more than one", dear.cheapest(3, false), 99);
        h.goal(2, 0);
        Checks.same("as they are, or more", h.cheapest(3, true), 0);
        h.goal(1, 1);
        Checks.same("the first of the two", h.cheapest(3, false), 49);
        h.goal(1, 2);
        Checks.same("NONE", h.cheapest(3, true), NONE);
        TokenHall free = Checks.hall("place 0;act 0;out 0 0 1;bar 0 0 9;");
        free.goal(0, 9);
        Checks.same("acts that cost nothing", free.cheapest(10, false), 0);
        TokenHall fan = Checks.hall("place 1;place 0;place 0;place 0;place 0;act 10;act 10;act 10;act 5;act 1;"
                + "in 0 0 1;out 0 1 1;in 1 0 1;out 1 2 1;in 2 0 1;out 2 3 1;in 3 0 1;out 3 4 1;in 4 4 1;out 4 2 1;");
        int[] due = {0, 10, 6, 10, 5};
        for (int p = 0; p < 5; p++) {
            fan.goal(p, 1);
            Checks.same("one that becomes cheaper among like ones, " + p, fan.cheapest(5, false), due[p]);
            fan.goal(p, 0);
        }
        TokenHall most = Checks.hall("place 0;act 99;out 0 0 1;");
        most.goal(0, 99);
        Checks.same("99 times 99", most.cheapest(1000, false), 99 * 99);
        TokenHall far = Checks.hall(chain(3000).replace("act 1;", "act 99;"));
        for (int p = 0; p < 4; p++) {
            far.goal(p, 2);
        }
        Checks.same("99 a step, far away", far.cheapest(3000, true), 2999 * 99);
    }

    private static void costFull() {
        Checks.of("CHEAPEST; NONE; FULL (whatever came ahead of it)");
        TokenHall h = Checks.hall(FORK);
        Checks.same("as they are, FULL", h.cheapest(5, true), FULL);
        Checks.same("as they are", h.cheapest(6, true), 0);
        h.goal(1, 9);
        Checks.same("NONE, FULL", h.cheapest(5, true), FULL);
        Checks.same("NONE", h.cheapest(6, true), NONE);
    }

    private static void rowsOfActs() {
        Checks.of("ROWS of n ACTS (0 to 20): how many there are that do not ERR");
        TokenHall free = Checks.hall("place 0;" + "act 0;".repeat(8));
        Checks.same("none", free.rows(1, 0), 1);
        Checks.same("one of 8", free.rows(1, 1), 8);
        Checks.same("19 of 8", free.rows(1, 19), 1L << 57);
        Checks.same("20 of 8", free.rows(1, 20), 1L << 60);
        TokenHall h = Checks.hall(FORK);
        long[] due = {1, 2, 4, 0, 0};
        for (int n = 0; n < 5; n++) {
            Checks.same("rows of " + n, h.rows(6, n), due[n]);
        }
        Checks.same("rows of 20", h.rows(6, 20), 0);
        Checks.of("IllegalArgumentException: also n");
        for (int n : new int[] {-1, 21, Integer.MIN_VALUE, Integer.MAX_VALUE}) {
            Checks.refused("rows of " + n, Checks.BAD, x -> x.rows(9, n));
            Checks.refused("rows of " + n + ", FULL", Checks.BAD, x -> x.rows(1, n));
            Checks.refusedWithoutNet("rows of " + n, Checks.BAD, x -> x.rows(9, n));
        }
    }

    private static void rowsFull() {
        Checks.of("(FULL likewise)");
        TokenHall h = Checks.hall(FORK);
        for (int n : new int[] {0, 1, 2, 20}) {
            Checks.same("rows of " + n + " by 5", h.rows(5, n), FULL);
        }
        Checks.same("rows of 2 by 6", h.rows(6, 2), 4);
    }

    private static void nothingChanges() {
        Checks.of("from those as they are on");
        callsWithMost().forEach((name, call) -> {
            TokenHall h = Checks.busy();
            String before = Checks.look(h);
            call.accept(h, 2);
            call.accept(h, 3000);
            Checks.stays(name, h, before);
        });
    }
}
