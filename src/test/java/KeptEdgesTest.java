import java.util.Random;

/** The edges of what is kept, growth, siphons and looks (==== 3. of the document), and of promises 26 to 34. */
public final class KeptEdgesTest {
    private static final int NONE = -1;
    private static final int FULL = -2;
    private static final int[] NO_NUMBERS = {-1, 2, 8, Integer.MIN_VALUE, Integer.MAX_VALUE};

    public static void main(String[] args) {
        changes();
        reducedForm();
        emptyAndWholeBases();
        exactNumbers();
        denseNets();
        basesAndRows();
        nevers();
        growthAtFirst();
        growthNoMatter();
        withoutEnd();
        onItsOwnBranch();
        asMarksWereBefore();
        inTheOrderInWhichTheyCome();
        thereAlready();
        bounds();
        beyondAThousand();
        siphonsAndTraps();
        leastOnes();
        siphonNumbers();
        isNoneOrSome();
        guarded();
        looksOfActs();
        looksOfPlaces();
        looksOfChoices();
        looksOfTheRest();
        Checks.end();
    }

    private static void kept(TokenHall h, long[]... due) {
        Checks.same("rows of the base", h.base(0), due.length);
        for (int i = 0; i < due.length; i++) {
            for (int p = 0; p < due[i].length; p++) {
                Checks.same("row " + i + " place " + p, h.kept(i, p), due[i][p]);
            }
        }
    }

    private static void rounds(TokenHall h, long[]... due) {
        Checks.same("rows of the base", h.base(1), due.length);
        for (int i = 0; i < due.length; i++) {
            for (int t = 0; t < due[i].length; t++) {
                Checks.same("row " + i + " act " + t, h.round(i, t), due[i][t]);
            }
        }
    }

    private static long[] row(long... numbers) {
        return numbers;
    }

    private static void changes() {
        Checks.of("CHANGE of a PLACE by an ACT: what it gives there less what it takes");
        kept(Checks.hall("place 0;place 0;act 0;in 0 0 5;out 0 0 2;out 0 1 1;"), row(1, 3));
        kept(Checks.hall("place 0;place 0;act 0;in 0 0 2;out 0 0 5;in 0 1 1;"), row(1, 3));
        kept(Checks.hall("place 0;place 0;act 0;in 0 0 5;out 0 0 5;out 0 1 1;"), row(1, 0));
        kept(Checks.hall("place 0;place 0;act 0;in 0 0 5;out 0 1 5;bar 0 0 3;if 0 1=2;"), row(1, 1));
        rounds(Checks.hall("place 0;act 0;act 0;in 0 0 5;out 0 0 2;out 1 0 1;"), row(1, 3));
        rounds(Checks.hall("place 0;act 0;act 0;in 0 0 5;out 0 0 5;out 1 0 1;"), row(1, 0));
    }

    private static void reducedForm() {
        Checks.of("each row begins with a number above 0, behind 0s, where all other rows have 0");
        kept(Checks.hall("place 0;place 0;act 0;out 0 0 1;out 0 1 1;"), row(1, -1));
        kept(Checks.hall("place 0;place 0;place 0;act 0;out 0 0 1;out 0 1 1;out 0 2 1;"), row(1, 0, -1), row(0, 1, -1));
        kept(Checks.hall("place 0;place 0;place 0;act 0;out 0 0 2;out 0 1 3;in 0 2 5;"), row(5, 0, 2), row(0, 5, 3));
        rounds(Checks.hall("place 0;act 0;act 0;act 0;out 0 0 2;out 1 0 3;in 2 0 5;"), row(5, 0, 2), row(0, 5, 3));
        Checks.of("rows by where they begin");
        kept(Checks.hall("place 0;place 0;place 0;place 0;act 0;in 0 1 1;out 0 3 1;"),
                row(1, 0, 0, 0), row(0, 1, 0, 1), row(0, 0, 1, 0));
        rounds(Checks.hall("place 0;act 0;act 0;act 0;act 0;in 1 0 1;out 3 0 1;"),
                row(1, 0, 0, 0), row(0, 1, 0, 1), row(0, 0, 1, 0));
        Checks.of("the greatest number that divides a row is 1");
        kept(Checks.hall("place 0;place 0;act 0;in 0 0 2;out 0 1 4;"), row(2, 1));
        kept(Checks.hall("place 0;place 0;act 0;in 0 0 4;out 0 1 4;"), row(1, 1));
        rounds(Checks.hall("place 0;act 0;act 0;in 0 0 2;out 1 0 4;"), row(2, 1));
        kept(Checks.hall("place 0;place 0;place 0;act 0;act 0;in 0 0 2;out 0 1 4;in 1 1 2;out 1 2 4;"), row(4, 2, 1));
    }

    private static void emptyAndWholeBases() {
        Checks.of("Told is the one BASE of them");
        TokenHall none = Checks.hall("place 0;act 0;out 0 0 1;");
        kept(none);
        rounds(none);
        Checks.fails("no row", Checks.BAD, () -> none.kept(0, 0));
        Checks.fails("no round", Checks.BAD, () -> none.round(0, 0));
        TokenHall all = Checks.hall("place 0;".repeat(8) + "act 0;".repeat(8));
        for (int i = 0; i < 8; i++) {
            for (int k = 0; k < 8; k++) {
                Checks.same("kept of 8", all.kept(i, k), i == k ? 1 : 0);
                Checks.same("round of 8", all.round(i, k), i == k ? 1 : 0);
            }
        }
        Checks.same("8 rows kept", all.base(0), 8);
        Checks.same("8 rounds", all.base(1), 8);
        Checks.fails("a 9th row", Checks.BAD, () -> all.kept(8, 0));
        Checks.fails("a 9th round", Checks.BAD, () -> all.round(8, 0));
        Checks.tell(all, "place 0;act 0;out 0 0 1;");
        Checks.same("none by another net", all.base(0) + all.base(1), 0);
    }

    /** Of seven acts that make 5 of 4: numbers are the products of 5s and 4s. */
    private static void exactNumbers() {
        Checks.of("rows of whole numbers, one for each PLACE, whose sum with CHANGES of each ACT is 0");
        StringBuilder text = new StringBuilder("place 0;".repeat(8) + "act 0;".repeat(7));
        for (int t = 0; t < 7; t++) {
            text.append("in ").append(t).append(' ').append(t).append(" 4;");
            text.append("out ").append(t).append(' ').append(t + 1).append(" 5;");
        }
        TokenHall h = Checks.hall(text.toString());
        Checks.same("one row", h.base(0), 1);
        long due = 78125;
        for (int p = 0; p < 8; p++) {
            Checks.same("weight of place " + p, h.kept(0, p), due);
            due = due / 5 * 4;
        }
        Checks.same("no rounds", h.base(1), 0);
    }

    /** 7 places and 6 acts with arcs between all of them: each row by what the document asks of it. */
    private static void denseNets() {
        Random chance = new Random(3);
        for (int round = 0; round < 20; round++) {
            StringBuilder text = new StringBuilder("place 0;".repeat(7) + "act 0;".repeat(6));
            long[][] change = new long[6][7];
            for (int t = 0; t < 6; t++) {
                for (int p = 0; p < 7; p++) {
                    int n = 1 + chance.nextInt(5);
                    boolean takes = chance.nextBoolean();
                    change[t][p] = takes ? -n : n;
                    text.append(takes ? "in" : "out").append(t).append(' ').append(p).append(' ').append(n).append(';');
                }
            }
            TokenHall h = Checks.hall(text.toString());
            Checks.same("one row", h.base(0), 1);
            Checks.same("no round", h.base(1), 0);
            long common = 0;
            long lead = 0;
            for (int p = 0; p < 7; p++) {
                lead = lead == 0 ? h.kept(0, p) : lead;
                common = gcd(common, Math.abs(h.kept(0, p)));
            }
            Checks.same("nothing divides it", common, 1);
            Checks.same("it begins above 0", lead > 0, true);
            for (int t = 0; t < 6; t++) {
                long sum = 0;
                for (int p = 0; p < 7; p++) {
                    sum += change[t][p] * h.kept(0, p);
                }
                Checks.same("the sum with act " + t, sum, 0);
            }
        }
        kept(Checks.hall("place 0;place 0;place 0;act 0;act 0;in 0 0 1;out 0 2 1;in 1 1 1;out 1 2 1;"), row(1, 1, 1));
        rounds(Checks.hall("place 0;place 0;act 0;act 0;act 0;in 0 0 1;out 2 0 1;in 1 1 1;out 2 1 1;"), row(1, 1, 1));
        kept(Checks.hall("place 0;place 0;place 0;act 0;act 0;out 0 2 1;out 1 2 1;"), row(1, 0, 0), row(0, 1, 0));
    }

    private static long gcd(long one, long other) {
        return other == 0 ? one : gcd(other, one % other);
    }

    private static void basesAndRows() {
        Checks.of("How many rows the BASE of KEPT (what 0), of ROUNDS (1) has.");
        for (int what : NO_NUMBERS) {
            Checks.refused("base " + what, Checks.BAD, h -> h.base(what));
            Checks.refusedWithoutNet("base " + what, Checks.BAD, h -> h.base(what));
        }
        Checks.of("IllegalArgumentException: no such row (so below).");
        Checks.same("one row in a busy hall", Checks.busy().base(0), 1);
        for (int i : new int[] {-1, 1, 8, Integer.MIN_VALUE, Integer.MAX_VALUE}) {
            Checks.refused("kept row " + i, Checks.BAD, h -> h.kept(i, 0));
            Checks.refused("round row " + i, Checks.BAD, h -> h.round(i, 0));
        }
        for (int n : NO_NUMBERS) {
            Checks.refused("kept of place " + n, Checks.PLACE, h -> h.kept(0, n));
            Checks.refused("round of act " + n, Checks.ACT, h -> h.round(0, n));
        }
    }

    private static void nevers() {
        Checks.of("NEVER: MARKS told that are not as MARKS are now by some KEPT row (sum of products)");
        TokenHall h = Checks.hall("place 1;place 2;place 5;act 0;in 0 0 1;out 0 1 1;");
        Checks.same("two rows", h.base(0), 2);
        h.goal(0, 3);
        h.goal(2, 5);
        Checks.same("alike by both rows", h.never(), false);
        h.goal(2, 4);
        Checks.same("one fewer by the second row", h.never(), true);
        h.goal(2, 6);
        Checks.same("one more by the second row", h.never(), true);
        h.goal(2, 5);
        h.goal(0, 2);
        Checks.same("one fewer by the first row", h.never(), true);
        h.goal(0, 4);
        Checks.same("one more by the first row", h.never(), true);
        h.put(0, 2);
        Checks.same("as MARKS are now", h.never(), false);
        TokenHall free = Checks.hall("place 0;act 0;in 0 0 1;");
        free.goal(0, 99);
        Checks.same("nothing is kept, though they don't come", free.never(), false);
        TokenHall weights = Checks.hall("place 0;place 2;act 0;in 0 0 2;out 0 1 3;");
        weights.goal(0, 1);
        weights.goal(1, 1);
        Checks.same("3 and 2 are not 4", weights.never(), true);
        weights.put(0, 1);
        weights.put(1, 1);
        Checks.same("as they are", weights.never(), false);
    }

    private static void growthAtFirst() {
        Checks.of("GROWTH: a tree of MARKS, of which some are without end: at first MARKS as they are");
        TokenHall h = Checks.hall("place 4;act 0;in 0 0 5;");
        Checks.same("nothing may be done", h.growth(), 1);
        Checks.same("its bound", h.bound(0), 4);
        h.put(0, 5);
        Checks.same("one act", h.growth(), 2);
        Checks.same("its bound, as they are", h.bound(0), 5);
        h.put(0, 99);
        Checks.same("19 acts", h.growth(), 20);
    }

    private static void growthNoMatter() {
        Checks.of("the ACTS by number that MAY be done, bars, rooms and conditions no matter");
        String text = "place 0 room 1;act 0;out 0 0 2;";
        for (String more : new String[] {"", "bar 0 0 1;", "if 0 1=2;"}) {
            TokenHall h = Checks.hall(text + more);
            Checks.same("states", h.states(9), 1);
            Checks.same("growth", h.growth(), 2);
            Checks.same("bound", h.bound(0), NONE);
        }
        TokenHall barred = Checks.hall("place 3;act 0;in 0 0 1;bar 0 0 1;");
        Checks.same("a bar", barred.growth(), 4);
        Checks.of("(what is without end is enough, and stays so)");
        TokenHall h = Checks.hall("place 0;place 0;act 0;act 0;out 0 0 1;in 1 0 5;out 1 1 1;");
        Checks.same("5 are taken from what is without end", h.growth(), 3);
        Checks.same("it stays so", h.bound(0), NONE);
        Checks.same("so is what it brings", h.bound(1), NONE);
    }

    private static void withoutEnd() {
        Checks.of("if somewhere ahead of it on its own branch no PLACE had more, and some fewer");
        TokenHall same = Checks.hall("place 1;act 0;in 0 0 1;out 0 0 1;");
        Checks.same("all alike", same.growth(), 1);
        Checks.same("all alike, bound", same.bound(0), 1);
        TokenHall more = Checks.hall("place 1;place 0;act 0;in 0 0 1;out 0 1 5;");
        Checks.same("one had more", more.growth(), 2);
        Checks.same("one had more, bound", more.bound(1), 5);
        TokenHall one = Checks.hall("place 1;place 0;act 0;in 0 0 1;out 0 0 1;out 0 1 5;");
        Checks.same("one alike, one fewer", one.growth(), 2);
        Checks.same("the one alike", one.bound(0), 1);
        Checks.same("the one with fewer", one.bound(1), NONE);
        TokenHall far = Checks.hall("place 1;place 0;place 0;act 0;act 0;in 0 0 1;out 0 1 1;in 1 1 1;out 1 0 1;out 1 2 1;");
        Checks.same("not just the one ahead", far.bound(2), NONE);
        Checks.same("two and two", far.growth(), 4);
    }

    private static void onItsOwnBranch() {
        TokenHall h = Checks.hall("place 1;place 0;act 0;act 0;in 0 0 1;out 0 1 1;in 1 0 1;out 1 1 2;");
        Checks.same("fewer on another branch", h.growth(), 3);
        Checks.same("fewer on another branch, bound", h.bound(1), 2);
    }

    /** Ahead stand (5, 0) and (0, 1): (1, 1) has more than the second one alone, whatever that makes of it. */
    private static void asMarksWereBefore() {
        Checks.of("(by all such ones ahead, as MARKS were before that)");
        TokenHall h = Checks.hall("place 5;place 0;act 0;act 0;in 0 0 5;out 0 1 1;in 1 1 1;out 1 1 1;out 1 0 1;");
        Checks.same("by one ahead, and later by others", h.growth(), 4);
        TokenHall both = Checks.hall("place 0;place 2;place 0;act 0;act 0;in 0 1 1;out 0 0 1;in 1 0 1;out 1 1 2;out 1 2 1;");
        Checks.same("by all such ones", both.bound(0), NONE);
        Checks.same("by all such ones", both.bound(1), NONE);
        Checks.same("by all such ones", both.bound(2), NONE);
    }

    /**
     * By hand: (1, 2); behind it (3, 1), (1, 1), (1, endless); behind the second (5, 0), (3, 0), (endless, endless);
     * behind the third (1, 0); behind (3, 0) then (3, endless). In another order (3, 0) stands on another branch.
     */
    private static void inTheOrderInWhichTheyCome() {
        Checks.of("of each that is new, in the order in which they come, the ACTS by number");
        TokenHall h = Checks.hall("place 1;place 2;act 0;act 0;act 0;in 0 0 1;in 0 1 1;out 0 0 3;"
                + "in 1 0 1;in 1 1 1;out 1 0 1;in 2 0 1;out 2 0 1;out 2 1 1;");
        Checks.same("nine in the tree", h.growth(), 9);
        Checks.same("without end", h.bound(0), NONE);
        Checks.same("without end", h.bound(1), NONE);
    }

    private static void thereAlready() {
        Checks.of("One that is there already is none more.");
        TokenHall h = Checks.hall("place 1;place 1;act 0;act 0;in 0 0 1;in 1 1 1;");
        Checks.same("come to in two ways", h.growth(), 4);
        Checks.same("by two acts", Checks.hall("place 1;act 0;act 0;in 0 0 1;in 1 0 1;").growth(), 2);
        TokenHall ring = Checks.hall("place 1;place 0;act 0;act 0;in 0 0 1;out 0 1 1;in 1 1 1;out 1 0 1;");
        Checks.same("come to again", ring.growth(), 2);
    }

    private static void bounds() {
        Checks.of("BOUND of a PLACE: the most in the tree; NONE without end.");
        TokenHall h = Checks.hall("place 3;place 0;place 0;act 0;act 0;in 0 0 3;out 0 1 5;in 1 1 4;out 1 2 1;");
        int[] due = {3, 5, 1};
        for (int p = 0; p < 3; p++) {
            Checks.same("bound of " + p, h.bound(p), due[p]);
        }
        Checks.same("none ever", Checks.hall("place 0;act 0;in 0 0 1;").bound(0), 0);
        for (int place : NO_NUMBERS) {
            Checks.refused("bound of place " + place, Checks.PLACE, x -> x.bound(place));
        }
        TokenHall busy = Checks.busy();
        String before = Checks.look(busy);
        busy.growth();
        busy.bound(0);
        Checks.stays("growth", busy, before);
    }

    /** Marks that only go: as many in the tree as the product of one more than there are in each place. */
    private static void beyondAThousand() {
        Checks.of("FULL likewise, beyond 1,000.");
        String less = "act 0;act 0;act 0;in 0 0 1;in 1 1 1;in 2 2 1;";
        int[][] marks = {{26, 36, 0}, {99, 9, 0}, {6, 10, 12}, {99, 10, 0}};
        int[] due = {999, 1000, FULL, FULL};
        for (int i = 0; i < marks.length; i++) {
            TokenHall h = Checks.hall("place " + marks[i][0] + ";place " + marks[i][1] + ";place " + marks[i][2] + ";" + less);
            Checks.same("growth of net " + i, h.growth(), due[i]);
            for (int p = 0; p < 3; p++) {
                Checks.same("bound of net " + i, h.bound(p), due[i] == FULL ? FULL : marks[i][p]);
            }
            h.put(0, 0);
            Checks.same("not FULL behind it", h.bound(0), 0);
        }
        TokenHall endless = Checks.hall("place 6;place 10;place 12;place 0;act 0;" + less + "out 3 3 1;");
        Checks.same("FULL goes ahead of without end", endless.bound(3), FULL);
    }

    private static void siphonsAndTraps() {
        Checks.of("A SIPHON: PLACES (one at least) so that each ACT that gives to one of them takes from one of them");
        TokenHall h = Checks.hall("place 0;place 0;place 0;act 0;act 0;in 0 0 1;in 0 1 1;out 0 2 1;in 1 2 1;out 1 0 1;");
        for (int bits = 1; bits < 8; bits++) {
            Checks.same("siphon " + bits, h.is(bits, 0), isSiphon(bits));
            Checks.same("trap " + bits, h.is(bits, 1), isTrap(bits));
        }
        Checks.same("nobody gives to it", Checks.hall("place 0;act 0;in 0 0 1;").is(1, 0), true);
        Checks.same("somebody gives to it", Checks.hall("place 0;act 0;out 0 0 1;").is(1, 0), false);
        Checks.same("who gives takes", Checks.hall("place 0;act 0;out 0 0 5;in 0 0 1;").is(1, 0), true);
        Checks.of("a TRAP: each ACT that takes from one gives to one");
        Checks.same("nobody takes from it", Checks.hall("place 0;act 0;out 0 0 1;").is(1, 1), true);
        Checks.same("somebody takes from it", Checks.hall("place 0;act 0;in 0 0 1;").is(1, 1), false);
        Checks.same("who takes gives", Checks.hall("place 0;act 0;in 0 0 5;out 0 0 1;").is(1, 1), true);
    }

    /** Act 0 makes one in place 2 of one in 0 and one in 1; act 1 makes one in place 0 of that. */
    private static boolean isSiphon(int bits) {
        boolean first = (bits & 4) == 0 || (bits & 3) != 0;
        boolean second = (bits & 1) == 0 || (bits & 4) != 0;
        return first && second;
    }

    private static boolean isTrap(int bits) {
        boolean first = (bits & 3) == 0 || (bits & 4) != 0;
        boolean second = (bits & 4) == 0 || (bits & 1) != 0;
        return first && second;
    }

    private static void leastOnes() {
        Checks.of("LEAST ones have no other one within them; by bits, the least first.");
        StringBuilder pairs = new StringBuilder("place 0;".repeat(8) + "act 0;".repeat(8));
        for (int t = 0; t < 8; t++) {
            pairs.append("in ").append(t).append(' ').append(t).append(" 1;out ").append(t).append(' ');
            pairs.append(7 - t).append(" 1;");
        }
        TokenHall h = Checks.hall(pairs.toString());
        int[] due = {24, 36, 66, 129, 0};
        for (int i = 0; i < due.length; i++) {
            Checks.same("pairs, siphon " + i, h.siphon(false, i), due[i]);
            Checks.same("pairs, trap " + i, h.siphon(true, i), due[i]);
        }
        TokenHall single = Checks.hall("place 0;".repeat(8) + "act 0;");
        for (int i = 0; i < 8; i++) {
            Checks.same("single ones", single.siphon(false, i), 1 << i);
            Checks.same("single ones", single.siphon(true, i), 1 << i);
        }
        Checks.same("no more than 8", single.siphon(false, 8), 0);
        TokenHall within = Checks.hall("place 0;place 0;place 0;act 0;act 0;in 0 0 1;in 0 1 1;out 0 2 1;in 1 2 1;out 1 0 1;");
        int[] siphons = {2, 5, 0};
        int[] traps = {5, 0, 0};
        for (int i = 0; i < 3; i++) {
            Checks.same("least siphon " + i, within.siphon(false, i), siphons[i]);
            Checks.same("least trap " + i, within.siphon(true, i), traps[i]);
        }
    }

    private static void siphonNumbers() {
        Checks.of("0: there are not so many. IllegalArgumentException: i is below 0.");
        TokenHall h = Checks.busy();
        Checks.same("the first", h.siphon(false, 0), 3);
        Checks.same("one beyond", h.siphon(false, 1), 0);
        Checks.same("far beyond", h.siphon(false, Integer.MAX_VALUE), 0);
        Checks.same("far beyond", h.siphon(true, Integer.MAX_VALUE), 0);
        Checks.same("none at all", Checks.hall("place 0;act 0;out 0 0 1;").siphon(false, 0), 0);
        for (int i : new int[] {-1, Integer.MIN_VALUE}) {
            Checks.refused("siphon " + i, Checks.BAD, x -> x.siphon(false, i));
            Checks.refused("trap " + i, Checks.BAD, x -> x.siphon(true, i));
            Checks.refusedWithoutNet("siphon " + i, Checks.BAD, x -> x.siphon(false, i));
        }
    }

    private static void isNoneOrSome() {
        Checks.of("IllegalArgumentException: bits of none, what.");
        for (int what = 0; what < 3; what++) {
            int asked = what;
            Checks.refused("no bits", Checks.BAD, h -> h.is(0, asked));
            Checks.refused("the first bit of no place", Checks.BAD, h -> h.is(4, asked));
            Checks.refused("such a bit with all places", Checks.BAD, h -> h.is(7, asked));
            Checks.refused("all bits", Checks.BAD, h -> h.is(-1, asked));
            Checks.refused("the highest bit", Checks.BAD, h -> h.is(Integer.MIN_VALUE, asked));
            Checks.refused("the highest bit with a place", Checks.BAD, h -> h.is(Integer.MIN_VALUE + 1, asked));
            Checks.same("all places", Checks.busy().is(3, what), true);
            Checks.same("one place", Checks.busy().is(1, what), false);
            Checks.same("8 places", Checks.hall("place 1;".repeat(8) + "act 0;").is(255, what), true);
            Checks.fails("a 9th", Checks.BAD, () -> Checks.hall("place 1;".repeat(8) + "act 0;").is(256, asked));
        }
        for (int what : new int[] {-1, 3, Integer.MIN_VALUE, Integer.MAX_VALUE}) {
            Checks.refused("what " + what, Checks.BAD, h -> h.is(3, what));
        }
    }

    private static void guarded() {
        Checks.of("GUARDED is a SIPHON, if some TRAP within it has MARKS (in some PLACE of it).");
        TokenHall ring = Checks.hall("place 0;place 0;place 0;act 0;act 0;in 0 0 1;out 0 1 1;in 1 1 1;out 1 0 1;");
        Checks.same("no marks", ring.is(3, 2), false);
        ring.put(2, 1);
        Checks.same("marks beside it", ring.is(3, 2), false);
        Checks.same("marks of another trap within", ring.is(7, 2), true);
        ring.put(2, 0);
        ring.put(1, 1);
        Checks.same("one mark in some place", ring.is(3, 2), true);
        Checks.same("a trap that is less than the siphon", ring.is(7, 2), true);
        TokenHall leak = Checks.hall("place 5;place 0;act 0;act 0;act 0;in 0 0 1;out 0 1 1;in 1 1 1;out 1 0 1;in 2 0 1;");
        Checks.same("a siphon", leak.is(3, 0), true);
        Checks.same("no trap within", leak.is(3, 2), false);
        TokenHall single = Checks.hall("place 1;act 0;in 0 0 1;out 0 0 1;");
        Checks.same("one place, one mark", single.is(1, 2), true);
        single.put(0, 0);
        Checks.same("one place, no mark", single.is(1, 2), false);
        TokenHall part = Checks.hall("place 5;place 0;act 0;in 0 0 1;out 0 1 1;in 0 1 1;");
        Checks.same("a trap without marks within", part.is(2, 2), false);
        Checks.same("the whole has marks", part.is(3, 2), true);
        Checks.of("whether a SIPHON that they are is GUARDED (2; not, if they are none)");
        TokenHall none = Checks.hall("place 9;act 0;out 0 0 1;");
        Checks.same("a trap with marks, but no siphon", none.is(1, 1), true);
        Checks.same("not, if they are none", none.is(1, 2), false);
    }

    private static int look(String text, int bit) {
        return Checks.hall(text).looks() & bit;
    }

    private static void looksOfActs() {
        Checks.of("LOOKS: 1: each ACT takes from one PLACE and gives to one");
        String two = "place 0;place 0;act 0;act 0;in 0 0 1;out 0 1 1;in 1 1 5;out 1 1 5;";
        Checks.same("each one", look(two, 1), 1);
        Checks.same("one takes from two", look(two + "in 1 0 1;", 1), 0);
        Checks.same("one gives to two", look(two + "out 1 0 1;", 1), 0);
        Checks.same("one takes from none", look("place 0;act 0;out 0 0 1;", 1), 0);
        Checks.same("one gives to none", look("place 0;act 0;in 0 0 1;", 1), 0);
        Checks.same("a third act has none", look(two + "act 0;", 1), 0);
        Checks.same("a third place has none", look(two + "place 0;", 1), 1);
    }

    private static void looksOfPlaces() {
        Checks.of("2: each PLACE has one ACT that gives and one that takes");
        String two = "place 0;place 0;act 0;act 0;in 0 0 1;out 0 1 1;in 1 1 5;out 1 0 5;";
        Checks.same("each one", look(two, 2), 2);
        Checks.same("two take from one", look(two + "in 0 1 1;", 2), 0);
        Checks.same("two give to one", look(two + "out 0 0 1;", 2), 0);
        Checks.same("nobody gives", look("place 0;act 0;in 0 0 1;", 2), 0);
        Checks.same("nobody takes", look("place 0;act 0;out 0 0 1;", 2), 0);
        Checks.same("a third place has none", look(two + "place 0;", 2), 0);
        Checks.same("a third act has none", look(two + "act 0;", 2), 2);
    }

    private static void looksOfChoices() {
        Checks.of("4: two ACTS that take from a PLACE in common take from the same ones alone, by the same numbers");
        String two = "place 0;place 0;act 0;act 0;in 0 0 2;in 0 1 3;in 1 0 2;";
        Checks.same("the same ones", look(two + "in 1 1 3;", 4), 4);
        Checks.same("one more is taken", look(two + "in 1 1 4;", 4), 0);
        Checks.same("one fewer is taken", look(two + "in 1 1 2;", 4), 0);
        Checks.same("one takes from one more", look(two, 4), 0);
        Checks.same("none in common", look("place 0;place 0;act 0;act 0;in 0 0 2;in 1 1 3;", 4), 4);
        Checks.same("one act alone", look("place 0;place 0;act 0;in 0 0 2;in 0 1 3;", 4), 4);
        Checks.same("nothing is taken", look("place 0;act 0;act 0;out 0 0 1;out 1 0 2;", 4), 4);
        Checks.same("the last two", look("place 0;" + "act 0;".repeat(8) + "in 6 0 1;in 7 0 2;", 4), 0);
    }

    private static void looksOfTheRest() {
        Checks.of("8: no ACT has a bar, a condition, and no PLACE room");
        String plain = "place 0;place 0;act 0;act 0;lasts 1 5;";
        Checks.same("none has", look(plain, 8), 8);
        Checks.same("a bar", look(plain + "bar 1 1 99;", 8), 0);
        Checks.same("the first bar", look(plain + "bar 0 0 1;", 8), 0);
        Checks.same("the last bar", look("place 0;".repeat(8) + "act 0;".repeat(8) + "bar 7 7 1;", 8), 0);
        Checks.same("the first condition", look(plain + "if 0 1=1;", 8), 0);
        Checks.same("the first room", look("place 0 room 1;place 0;act 0;", 8), 0);
        Checks.same("a condition", look(plain + "if 1 1=1;", 8), 0);
        Checks.same("room", look(plain + "place 0 room 99;", 8), 0);
        Checks.of("16: all take and give 1; together.");
        Checks.same("all", look(plain + "in 0 0 1;out 1 1 1;bar 0 0 9;", 16), 16);
        Checks.same("none takes or gives", look(plain, 16), 16);
        Checks.same("one takes 2", look(plain + "in 1 1 2;", 16), 0);
        Checks.same("one gives 2", look(plain + "out 1 1 2;", 16), 0);
        Checks.same("the first takes 2", look(plain + "in 0 0 2;", 16), 0);
        Checks.same("the first gives 2", look(plain + "out 0 0 2;", 16), 0);
        Checks.same("the last gives 2", look("place 0;".repeat(8) + "act 0;".repeat(8) + "out 7 7 2;", 16), 0);
        Checks.same("1 is not among them", Checks.hall("place 1;place 0;act 0;in 0 0 1;in 0 1 1;out 0 0 1;out 0 1 1;").looks(), 30);
        Checks.same("2 is not among them", Checks.hall("place 1;act 0;act 0;in 0 0 1;out 0 0 1;in 1 0 1;out 1 0 1;").looks(), 29);
        Checks.same("all at once", Checks.hall("place 1;act 0;in 0 0 1;out 0 0 1;").looks(), 31);
        Checks.same("only 16", Checks.hall("place 1 room 9;place 1;act 0;act 0;in 0 0 1;in 1 0 1;in 1 1 1;").looks(), 16);
        Checks.same("none", Checks.hall("place 1 room 9;place 1;act 0;act 0;in 0 0 1;in 1 0 2;in 1 1 1;").looks(), 0);
        TokenHall h = Checks.hall("place 1;act 0;in 0 0 1;out 0 0 1;");
        h.put(0, 9);
        Checks.same("marks are no matter", h.looks(), 31);
        Checks.same("without a NET", new TokenHall().looks(), 0);
    }
}
