import java.util.ArrayList;
import java.util.Collections;
import java.util.List;
import java.util.Random;

/** The edges of what stands under ==== 5. of the document, and of promises 43 to 50. */
public final class LastEdgesTest {
    private static final int NONE = -1;
    private static final int FULL = -2;
    private static final int[] NO_NUMBERS = {-1, 2, 8, Integer.MIN_VALUE, Integer.MAX_VALUE};
    /** Two marks go to one of two places each: 6 states. */
    private static final String FORK =
            "place 2;place 0;place 0;act 0;act 0;in 0 0 1;out 0 1 1;in 1 0 1;out 1 2 1;";

    public static void main(String[] args) {
        oftens();
        oftenWithoutEnd();
        neededs();
        neededFull();
        deepests();
        itEnds();
        marksComeAgain();
        threeThousandMarks();
        leastNumber();
        likenessOfPlaces();
        likenessOfActs();
        likenessByTrying();
        likenessNoMatter();
        images();
        imagesOfAll();
        restores();
        counts();
        Checks.end();
    }

    private static void oftens() {
        Checks.of("OFTEN an ACT can be done: the most in one row of ACTS");
        TokenHall h = Checks.hall("place 3;place 0;act 0;act 0;act 0;act 0;in 0 0 1;out 0 1 2;in 1 1 1;in 2 0 2;in 3 0 4;");
        int[] due = {3, 6, 1, 0};
        int states = h.states(3000);
        for (int act = 0; act < 4; act++) {
            Checks.same("act " + act, h.often(states, act), due[act]);
            Checks.same("act " + act + ", FULL", h.often(states - 1, act), FULL);
        }
        Checks.same("more than a row can hold", Checks.hall("place 99;act 0;in 0 0 1;").often(100, 0), 99);
        Checks.same("999 times", Checks.hall(StateEdgesTest.chain(1001)).often(1001, 0), 999);
        for (int act : NO_NUMBERS) {
            Checks.refused("often of act " + act, Checks.ACT, x -> x.often(9, act));
        }
    }

    private static void oftenWithoutEnd() {
        Checks.of("OFTEN; NONE without end; FULL.");
        Checks.same("it changes nothing", Checks.hall("place 0;act 0;").often(1, 0), NONE);
        TokenHall ring = Checks.hall("place 1;place 0;act 0;act 0;act 0;act 0;"
                + "in 0 0 1;out 0 1 1;in 1 1 1;out 1 0 1;in 2 1 1;in 3 1 2;");
        int[] due = {NONE, NONE, 1, 0};
        for (int act = 0; act < 4; act++) {
            Checks.same("a ring, act " + act, ring.often(3, act), due[act]);
        }
        Checks.same("without end, but FULL", Checks.hall("place 0;act 0;out 0 0 1;act 0;").often(999, 1), FULL);
        TokenHall late = Checks.hall("place 1;place 0;act 0;act 0;in 0 0 1;out 0 1 1;in 1 1 1;out 1 1 1;");
        Checks.same("once, ahead of a ring", late.often(2, 0), 1);
        Checks.same("a ring that comes later", late.often(2, 1), NONE);
    }

    private static void neededs() {
        Checks.of("NEEDED is an ACT for MARKS asked for, if these COME, but not, if it is never done.");
        TokenHall h = Checks.hall("place 1;place 0;place 0;act 0;act 0;act 0;act 0;"
                + "in 0 0 1;out 0 1 1;in 1 0 1;out 1 1 1;in 2 1 1;out 2 2 1;in 3 0 5;");
        h.goal(2, 1);
        int[] due = {0, 0, 1, 0};
        for (int act = 0; act < 4; act++) {
            Checks.same("act " + act, h.needed(3, false, act), due[act]);
            Checks.same("act " + act + ", or more", h.needed(3, true, act), due[act]);
        }
        h.goal(2, 0);
        h.goal(0, 1);
        Checks.same("nothing is needed for what is", h.needed(3, false, 2), 0);
        h.goal(0, 0);
        Checks.same("nor for no marks, or more", h.needed(3, true, 2), 0);
        Checks.same("no marks don't come", h.needed(3, false, 2), NONE);
        Checks.of("NONE: they don't COME at all");
        h.goal(2, 2);
        Checks.same("they don't come", h.needed(3, true, 2), NONE);
        for (int act : NO_NUMBERS) {
            Checks.refused("needed of act " + act, Checks.ACT, x -> x.needed(9, false, act));
        }
    }

    private static void neededFull() {
        Checks.of("FULL (of all STATES, or of those without the ACT)");
        TokenHall h = Checks.hall(FORK);
        h.goal(1, 1);
        Checks.same("all states come", h.needed(6, true, 0), 1);
        Checks.same("not the other one", h.needed(6, true, 1), 0);
        Checks.same("one too many", h.needed(5, true, 0), FULL);
        h.goal(1, 3);
        Checks.same("NONE", h.needed(6, true, 0), NONE);
        Checks.same("NONE, FULL", h.needed(5, true, 0), FULL);
    }

    private static void deepests() {
        Checks.of("DEEPEST: 0 how many ACTS, 1 the STATE; FULL.");
        TokenHall h = Checks.hall(FORK);
        Checks.same("two acts", h.deepest(6, 0), 2);
        Checks.same("the first such state", h.deepest(6, 1), 3);
        Checks.same("FULL", h.deepest(5, 0), FULL);
        Checks.same("FULL", h.deepest(5, 1), FULL);
        TokenHall still = Checks.hall("place 0;act 0;");
        Checks.same("none", still.deepest(1, 0), 0);
        Checks.same("that as they are", still.deepest(1, 1), 0);
        TokenHall far = Checks.hall(StateEdgesTest.chain(3000));
        Checks.same("2,999 acts", far.deepest(3000, 0), 2999);
        Checks.same("the last state", far.deepest(3000, 1), 2999);
        TokenHall nearer = Checks.hall("place 3;act 0;act 0;in 0 0 1;in 1 0 3;");
        Checks.same("by the fewest acts", nearer.deepest(4, 0), 2);
        Checks.same("the state behind two", nearer.deepest(4, 1), 3);
        for (int what : NO_NUMBERS) {
            Checks.refused("deepest " + what, Checks.BAD, x -> x.deepest(9, what));
            Checks.refused("deepest " + what + ", FULL", Checks.BAD, x -> x.deepest(1, what));
            Checks.refusedWithoutNet("deepest " + what, Checks.BAD, x -> x.deepest(9, what));
        }
    }

    private static void firsts(TokenHall h, int ends, int came, int later) {
        Checks.same("after how many it ends", h.first(0), ends);
        Checks.same("after how many they came first", h.first(1), came);
        Checks.same("how many later", h.first(2), later);
    }

    private static void itEnds() {
        Checks.of("0 after how many it ends (NONE: it does not)");
        TokenHall h = Checks.hall("place 5;act 0;in 0 0 1;");
        firsts(h, 5, NONE, NONE);
        h.put(0, 1);
        firsts(h, 1, NONE, NONE);
        h.put(0, 0);
        firsts(h, 0, NONE, NONE);
        h.put(0, 99);
        firsts(h, 99, NONE, NONE);
        String before = Checks.look(h);
        h.first(0);
        Checks.stays("first", h, before);
        for (int what : new int[] {-1, 3, Integer.MIN_VALUE, Integer.MAX_VALUE}) {
            Checks.refused("first " + what, Checks.BAD, x -> x.first(what));
            Checks.refusedWithoutNet("first " + what, Checks.BAD, x -> x.first(what));
        }
    }

    private static void marksComeAgain() {
        Checks.of("1 after how many MARKS came first that come again, 2 how many later (NONE of both: it ends)");
        firsts(Checks.hall("place 0;act 0;"), NONE, 0, 1);
        firsts(Checks.hall("place 1;place 0;act 0;act 0;in 0 0 1;out 0 1 1;in 1 1 1;out 1 0 1;"), NONE, 0, 2);
        TokenHall tail = Checks.hall("place 3;place 1;place 0;act 0;act 0;act 0;in 0 0 1;in 1 1 1;out 1 2 1;in 2 2 1;out 2 1 1;");
        firsts(tail, NONE, 3, 2);
        tail.put(0, 0);
        firsts(tail, NONE, 0, 2);
        tail.put(1, 0);
        firsts(tail, 0, NONE, NONE);
    }

    private static void threeThousandMarks() {
        Checks.of("FULL: of the first 3,000 MARKS (those as they are the first one) it ends at none, and none is alike an earlier one.");
        firsts(Checks.hall(StateEdgesTest.chain(2999)), 2998, NONE, NONE);
        firsts(Checks.hall(StateEdgesTest.chain(3000)), 2999, NONE, NONE);
        firsts(Checks.hall(StateEdgesTest.chain(3001)), FULL, FULL, FULL);
        for (int states = 2998; states <= 3001; states++) {
            // Behind the last of the chain an act changes nothing: its marks are the next ones, too.
            String again = StateEdgesTest.chain(states) + "act 0;";
            boolean seen = states < 3000;
            firsts(Checks.hall(again), seen ? NONE : FULL, seen ? states - 1 : FULL, seen ? 1 : FULL);
        }
        TokenHall h = Checks.hall(StateEdgesTest.chain(3001));
        firsts(h, FULL, FULL, FULL);
        h.fire(0);
        firsts(h, 2999, NONE, NONE);
    }

    private static void leastNumber() {
        Checks.of("THE LEAST FIRST: always the ACT of the least number that MAY be done");
        firsts(Checks.hall("place 4;act 0;act 0;in 0 0 3;in 1 0 1;"), 2, NONE, NONE);
        firsts(Checks.hall("place 4;act 0;act 0;in 0 0 1;in 1 0 3;"), 4, NONE, NONE);
        firsts(Checks.hall("place 4;act 0;act 0;in 0 0 3;if 0 1=2;in 1 0 1;"), 4, NONE, NONE);
        firsts(Checks.hall("place 4;act 0;act 0;in 0 0 3;bar 0 0 4;in 1 0 1;"), 2, NONE, NONE);
    }

    private static void likenessOfPlaces() {
        Checks.of("LIKENESS: how many rows of all PLACES there are (each once; that as told, too)");
        int due = 1;
        for (int n = 1; n <= 8; n++) {
            due *= n;
            Checks.same(n + " places alike", Checks.hall("place 3;".repeat(n) + "act 0;").alike(), due);
        }
        Checks.same("that as told alone", Checks.hall("place 0;place 1;place 2;act 0;").alike(), 1);
        Checks.same("each once", Checks.hall("place 0;place 0;place 0;act 0;act 0;in 0 0 1;in 0 1 1;in 1 2 1;").alike(), 2);
        Checks.of("first MARKS as told, rooms, what is taken, given, barred");
        String two = "place 1;place 1;act 0;";
        Checks.same("alike", Checks.hall(two).alike(), 2);
        Checks.same("other marks", Checks.hall("place 1;place 2;act 0;").alike(), 1);
        Checks.same("other rooms", Checks.hall("place 1 room 98;place 1 room 99;act 0;").alike(), 1);
        Checks.same("no room", Checks.hall("place 1 room 99;place 1;act 0;").alike(), 1);
        for (String word : new String[] {"in", "out", "bar"}) {
            Checks.same("one " + word, Checks.hall(two + word + " 0 0 2;").alike(), 1);
            Checks.same("two " + word, Checks.hall(two + word + " 0 0 2;" + word + " 0 1 2;").alike(), 2);
            Checks.same("two unlike " + word, Checks.hall(two + word + " 0 0 2;" + word + " 0 1 3;").alike(), 1);
        }
        Checks.same("in and out", Checks.hall(two + "in 0 0 1;out 0 1 1;").alike(), 1);
    }

    private static void likenessOfActs() {
        Checks.of("so that, the k-th put for PLACE k, the NET is the same, but for the order of its ACTS");
        String pair = "place 1;place 1;act 5;act 5;in 0 0 1;in 1 1 1;";
        Checks.same("acts change places", Checks.hall(pair).alike(), 2);
        Checks.same("other numbers", Checks.hall(pair + "in 1 1 2;").alike(), 1);
        Checks.of("COSTS, lasts");
        Checks.same("other costs", Checks.hall(pair.replace("act 5;act 5;", "act 5;act 6;")).alike(), 1);
        Checks.same("one lasts", Checks.hall(pair + "lasts 0 1;").alike(), 1);
        Checks.same("both last", Checks.hall(pair + "lasts 0 1;lasts 1 1;").alike(), 2);
        Checks.same("both last otherwise", Checks.hall(pair + "lasts 0 1;lasts 1 2;").alike(), 1);
        Checks.same("a third act that is one's own", Checks.hall(pair + "act 5;in 2 0 1;").alike(), 1);
        Checks.same("two and two acts", Checks.hall(pair + "act 5;act 5;in 2 0 1;in 3 1 1;").alike(), 2);
        StringBuilder ring = new StringBuilder("place 0;".repeat(8) + "act 0;".repeat(8));
        for (int i = 0; i < 8; i++) {
            ring.append("in ").append(i).append(' ').append(i).append(" 1;");
            ring.append("out ").append(i).append(' ').append((i + 1) % 8).append(" 1;");
        }
        Checks.same("a ring of 8", Checks.hall(ring.toString()).alike(), 8);
    }

    /** What likeness looks at, read once: of each act what is its own, then its arcs to each place; of each place its own. */
    private static String[][] read(TokenHall h) {
        int places = h.told(0);
        int acts = h.told(1);
        String[][] seen = new String[acts + 1][places + 1];
        for (int t = 0; t < acts; t++) {
            seen[t][places] = h.act(t, 0) + " " + h.act(t, 1);
            for (int p = 0; p < places; p++) {
                seen[t][p] = h.arc(t, p, 0) + "/" + h.arc(t, p, 1) + "/" + h.arc(t, p, 2);
            }
        }
        for (int p = 0; p < places; p++) {
            seen[acts][p] = h.marks(p, 0) + "/" + h.marks(p, 1);
        }
        return seen;
    }

    /** The net with a row of places put for its places, its acts in an order of their own. */
    private static String withRow(String[][] seen, List<Integer> row) {
        List<String> all = new ArrayList<>();
        for (String[] act : seen) {
            StringBuilder whole = new StringBuilder().append(act[act.length - 1]);
            for (int place : row) {
                whole.append(' ').append(act[place]);
            }
            all.add(whole.toString());
        }
        String ofPlaces = all.remove(all.size() - 1);
        Collections.sort(all);
        return all + ofPlaces;
    }

    private static int tried(String[][] seen, List<Integer> row, String due) {
        int places = seen[0].length - 1;
        if (row.size() == places) {
            return withRow(seen, row).equals(due) ? 1 : 0;
        }
        int count = 0;
        for (int place = 0; place < places; place++) {
            if (!row.contains(place)) {
                row.add(place);
                count += tried(seen, row, due);
                row.remove(row.size() - 1);
            }
        }
        return count;
    }

    private static void likenessByTrying() {
        Checks.of("so that, the k-th put for PLACE k, the NET is the same");
        String five = "place 1;place 1;place 1;place 1;place 1;act 0;act 0;act 0;act 0;act 0;";
        String[] arcs = {
            "", "in 0 0 1;in 1 1 1;in 2 2 1;in 3 3 1;in 4 4 1;", "in 0 0 1;in 0 1 1;in 1 2 1;in 1 3 1;",
            "in 0 0 1;out 0 1 1;in 1 1 1;out 1 2 1;in 2 2 1;out 2 0 1;in 3 3 1;out 3 4 1;in 4 4 1;out 4 3 1;",
            "in 0 0 1;out 0 1 1;in 1 1 1;out 1 2 1;in 2 2 1;out 2 3 1;in 3 3 1;out 3 4 1;in 4 4 1;out 4 0 1;",
            "in 0 0 1;out 0 1 1;in 1 1 1;out 1 2 1;in 2 2 1;out 2 3 1;in 3 3 1;out 3 4 1;",
            "in 0 0 1;in 0 1 1;in 1 1 1;in 1 2 1;in 2 2 1;in 2 3 1;in 3 3 1;in 3 4 1;in 4 4 1;in 4 0 1;",
            "in 0 0 1;in 0 1 1;in 1 1 1;in 1 2 1;in 2 2 1;in 2 3 1;in 3 3 1;in 3 4 1;",
            "in 0 0 1;in 0 1 1;in 1 1 1;in 1 2 1;in 2 2 1;in 2 0 1;in 3 3 1;in 3 4 1;",
            "in 0 0 1;out 0 1 1;in 1 0 1;out 1 2 1;in 2 0 1;out 2 3 1;in 3 0 1;out 3 4 1;",
            "in 0 0 1;out 0 1 1;in 1 1 1;out 1 0 1;in 2 2 1;out 2 3 1;in 3 3 1;out 3 2 1;bar 4 4 1;",
            "bar 0 0 1;bar 0 1 1;bar 0 2 1;bar 1 2 1;bar 1 3 1;bar 1 4 1;lasts 2 1;",
            "in 0 0 1;out 0 1 1;in 1 1 1;out 1 2 1;in 2 2 1;out 2 0 1;bar 0 0 1;", "in 0 1 1;in 1 2 1;in 2 3 1;in 2 1 1;",
            "in 0 0 4;out 0 1 2;bar 0 2 1;in 1 1 4;out 1 0 2;bar 1 2 1;", "in 0 0 1;bar 0 1 64;out 0 2 1;",
        };
        for (String text : arcs) {
            judgeLikeness(five + text);
        }
        Random chance = new Random(8);
        for (int i = 0; i < 300; i++) {
            judgeLikeness(five + turnedArcs(chance, i % 3 == 0 ? 4 : 5));
        }
    }

    /** Arcs of an act, told again for each further act with all places moved on by one. */
    private static String turnedArcs(Random chance, int acts) {
        int[] first = new int[10];
        for (int i = 0; i < 10; i++) {
            first[i] = Math.max(0, chance.nextInt(6) - 2);
        }
        int turning = 2 + chance.nextInt(4);
        StringBuilder text = new StringBuilder();
        for (int t = 0; t < acts; t++) {
            for (int i = 0; i < 10; i++) {
                int place = i / 2 < turning ? (i / 2 + t) % turning : i / 2;
                if (first[i] > 0) {
                    text.append(i % 2 == 0 ? "in " : "out ").append(t).append(' ').append(place).append(' ');
                    text.append(first[i]).append(';');
                }
            }
        }
        return text.toString();
    }

    private static void judgeLikeness(String text) {
        TokenHall h = Checks.hall(text);
        String[][] seen = read(h);
        String asTold = withRow(seen, List.of(0, 1, 2, 3, 4));
        Checks.same("likeness of '" + text + "'", h.alike(), tried(seen, new ArrayList<>(), asTold));
    }

    private static void likenessNoMatter() {
        Checks.of("(conditions and MARKS as they are no matter)");
        String pair = "place 1;place 1;act 5;act 5;in 0 0 1;in 1 1 1;";
        Checks.same("a condition", Checks.hall(pair + "if 1 marks 0=5;").alike(), 2);
        TokenHall h = Checks.hall(pair);
        h.put(0, 9);
        Checks.same("other marks now", h.alike(), 2);
        h.fire(1);
        Checks.same("acts done", h.alike(), 2);
        TokenHall other = Checks.hall("place 1;place 2;act 5;");
        other.put(1, 1);
        Checks.same("the same marks now", other.alike(), 1);
        Checks.of("LIKENESS (0 without a NET).");
        Checks.same("without a net", new TokenHall().alike(), 0);
    }

    private static void images() {
        Checks.of("An IMAGE of MARKS, those asked for, and ROWS: how many there are; -1: there are 3.");
        TokenHall h = Checks.hall("place 0;act 0;");
        for (int i = 1; i <= 3; i++) {
            h.put(0, 10 * i);
            Checks.same("image " + i, h.image(), i);
            Checks.same("images", h.count(1), i);
        }
        h.put(0, 40);
        Checks.same("a fourth", h.image(), -1);
        Checks.same("a fifth", h.image(), -1);
        Checks.same("still three", h.count(1), 3);
        Checks.same("marks stay", h.marks(0, 0), 40);
        for (int i = 3; i >= 1; i--) {
            Checks.same("restore " + i, h.restore(), i - 1);
            Checks.same("marks of image " + i, h.marks(0, 0), 10 * i);
        }
        Checks.same("an image again", h.image(), 1);
    }

    private static void imagesOfAll() {
        TokenHall h = Checks.hall("place 2;place 0;act 0;act 0;in 0 0 1;out 0 1 1;in 1 1 1;");
        h.goal(0, 7);
        h.goal(1, 8);
        h.row(0);
        h.row(1);
        h.image();
        h.fire(0);
        h.goal(0, 1);
        h.goal(1, 2);
        h.clear();
        h.row(1);
        Checks.same("judged without the image", h.judge(), -1);
        Checks.same("restore", h.restore(), 0);
        Checks.same("marks", h.marks(0, 0), 2);
        Checks.same("marks", h.marks(1, 0), 0);
        Checks.same("goals", h.goal(0, 0), 7);
        Checks.same("goals", h.goal(1, 0), 8);
        Checks.same("rows", h.count(0), 2);
        Checks.same("judged", h.judge(), -1);
        TokenHall full = Checks.hall("place 0;act 0;act 0;in 1 0 1;");
        for (int i = 0; i < 39; i++) {
            full.row(0);
        }
        full.row(1);
        full.image();
        full.clear();
        full.row(0);
        full.restore();
        Checks.same("40 rows", full.count(0), 40);
        Checks.same("the 40th", full.judge(), 391);
        Checks.same("no more", full.row(0), -1);
        full.clear();
        full.image();
        full.row(1);
        full.restore();
        Checks.same("no rows", full.count(0), 0);
    }

    private static void restores() {
        Checks.of("All is as in the latest IMAGE, which is gone: how many are left; -1: there is none.");
        TokenHall h = Checks.busy();
        Checks.same("the one", h.restore(), 0);
        String before = Checks.look(h);
        Checks.same("there is none", h.restore(), -1);
        Checks.stays("a restore of none", h, before);
        Checks.same("tape and fault are no part of it", h.count(2), 20);
        TokenHall seen = Checks.hall("place 3;act 0;in 0 0 1;");
        seen.image();
        seen.put(0, 1);
        Checks.same("states of the new marks", seen.states(9), 2);
        Checks.same("growth of the new marks", seen.growth(), 2);
        Checks.same("the least first of the new marks", seen.first(0), 1);
        Checks.same("clocks of the new marks", seen.period(0), 1);
        seen.restore();
        Checks.same("states of the image", seen.states(9), 4);
        Checks.same("growth of the image", seen.growth(), 4);
        Checks.same("the least first of the image", seen.first(0), 3);
        Checks.same("clocks of the image", seen.period(0), 3);
        TokenHall many = Checks.hall("place 0;act 0;");
        for (int i = 0; i < 5; i++) {
            Checks.same("image, then restore", many.image(), 1);
            Checks.same("image, then restore", many.restore(), 0);
        }
    }

    private static void counts() {
        Checks.of("0 ROWS, 1 IMAGES, 2 bytes of the TAPE; NONE for others.");
        TokenHall h = Checks.busy();
        int[] due = {2, 1, 20};
        for (int what = 0; what < 3; what++) {
            Checks.same("count " + what, h.count(what), due[what]);
        }
        for (int what : new int[] {-1, 3, Integer.MIN_VALUE, Integer.MAX_VALUE}) {
            Checks.same("count " + what, h.count(what), NONE);
            Checks.same("count " + what + " without a net", new TokenHall().count(what), NONE);
        }
    }
}
