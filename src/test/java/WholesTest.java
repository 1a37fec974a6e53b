/** Promises 26 to 34, 37 to 40 and 47: what is kept, growth, siphons and traps, looks, clocks, likeness. */
public final class WholesTest {
    private static final int FULL = -2;

    public static void main(String[] args) {
        keptRows();
        roundRows();
        largeBase();
        nevers();
        growths();
        siphons();
        guarded();
        looks();
        clocks();
        clockEdges();
        periods();
        likeness();
        Checks.end();
    }

    private static void keptRows() {
        TokenHall h = Checks.hall("place 1;place 1;place 1;act 0;in 0 0 2;out 0 1 3;");
        Checks.same("rows", h.base(0), 2);
        long[][] due = {{3, 2, 0}, {0, 0, 1}};
        for (int i = 0; i < 2; i++) {
            for (int p = 0; p < 3; p++) {
                Checks.same("kept " + i, h.kept(i, p), due[i][p]);
            }
        }
        Checks.fails("kept row", Checks.BAD, () -> h.kept(2, 0));
        Checks.fails("kept row below", Checks.BAD, () -> h.kept(-1, 0));
        Checks.fails("kept place", Checks.PLACE, () -> h.kept(0, 3));
        Checks.fails("base what", Checks.BAD, () -> h.base(2));
        Checks.fails("base what below", Checks.BAD, () -> h.base(-1));
        TokenHall less = Checks.hall("place 1;place 1;act 0;out 0 0 2;out 0 1 4;");
        Checks.same("a number below 0", less.kept(0, 0), 2);
        Checks.same("a number below 0", less.kept(0, 1), -1);
        TokenHall two = Checks.hall("place 1;place 1;place 1;act 0;out 0 0 1;out 0 1 1;out 0 2 1;");
        long[][] both = {{1, 0, -1}, {0, 1, -1}};
        for (int i = 0; i < 2; i++) {
            for (int p = 0; p < 3; p++) {
                Checks.same("reduced " + i, two.kept(i, p), both[i][p]);
            }
        }
        TokenHall still = Checks.hall("place 1;act 0;in 0 0 3;out 0 0 3;");
        Checks.same("what is taken and given alike is kept", still.kept(0, 0), 1);
        Checks.same("and is a round", still.round(0, 0), 1);
    }

    private static void roundRows() {
        TokenHall h = Checks.hall("place 1;act 0;act 0;act 0;in 0 0 2;out 1 0 3;");
        Checks.same("rounds", h.base(1), 2);
        long[][] due = {{3, 2, 0}, {0, 0, 1}};
        for (int i = 0; i < 2; i++) {
            for (int t = 0; t < 3; t++) {
                Checks.same("round " + i, h.round(i, t), due[i][t]);
            }
        }
        Checks.fails("round row", Checks.BAD, () -> h.round(2, 0));
        Checks.fails("round row below", Checks.BAD, () -> h.round(-1, 0));
        Checks.fails("round act", Checks.ACT, () -> h.round(0, 3));
        Checks.same("none kept", h.base(0), 0);
    }

    /** Each act makes 5 of 1: the weights are powers of 5, told exactly. */
    private static void largeBase() {
        StringBuilder text = new StringBuilder("place 1;".repeat(8) + "act 0;".repeat(7));
        for (int t = 0; t < 7; t++) {
            text.append("in ").append(t).append(' ').append(t).append(" 1;");
            text.append("out ").append(t).append(' ').append(t + 1).append(" 5;");
        }
        TokenHall h = Checks.hall(text.toString());
        Checks.same("one row", h.base(0), 1);
        long power = 78125;
        for (int p = 0; p < 8; p++) {
            Checks.same("weight " + p, h.kept(0, p), power);
            power /= 5;
        }
        Checks.same("no rounds", h.base(1), 0);
    }

    private static void nevers() {
        TokenHall h = Checks.hall("place 2;place 1;act 0;in 0 0 1;out 0 1 1;");
        h.goal(0, 3);
        Checks.same("the same sum", h.never(), false);
        h.goal(1, 1);
        Checks.same("another sum", h.never(), true);
        h.put(0, 3);
        Checks.same("by marks as they are", h.never(), false);
        TokenHall free = Checks.hall("place 2;act 0;out 0 0 1;");
        free.goal(0, 1);
        Checks.same("nothing is kept", free.never(), false);
    }

    private static void growths() {
        TokenHall h = Checks.hall("place 1;place 0;act 0;in 0 0 1;out 0 0 1;out 0 1 1;");
        Checks.same("two in the tree", h.growth(), 2);
        Checks.same("bound", h.bound(0), 1);
        Checks.same("without end", h.bound(1), -1);
        TokenHall bars = Checks.hall("place 0 room 3;act 0;out 0 0 1;bar 0 0 1;if 0 1=2;");
        Checks.same("bars, rooms, conditions no matter", bars.growth(), 2);
        Checks.same("bars, rooms, conditions no matter", bars.bound(0), -1);
        TokenHall chain = Checks.hall("place 1;place 0;place 0;act 0;act 0;act 0;"
                + "in 0 0 1;out 0 0 1;out 0 1 1;in 1 1 2;out 1 2 1;in 2 0 1;");
        Checks.same("a chain's tree", chain.growth(), 6);
        Checks.same("a chain's bound", chain.bound(2), -1);
        TokenHall wide = Checks.hall("place 9;place 0;place 0;place 0;place 0;act 0;act 0;act 0;act 0;"
                + "in 0 0 1;out 0 1 1;in 1 0 1;out 1 2 1;in 2 0 1;out 2 3 1;in 3 0 1;out 3 4 1;");
        Checks.same("715 ways to lay 9 out", wide.growth(), 715);
        Checks.same("bound 9", wide.bound(3), 9);
        wide.put(0, 10);
        Checks.same("1,001 are too many", wide.growth(), FULL);
        Checks.same("bound of too many", wide.bound(3), FULL);
        TokenHall line = Checks.hall("place 99;act 0;in 0 0 1;act 0;out 1 0 5;");
        Checks.same("growth from there", line.bound(0), -1);
        TokenHall down = Checks.hall("place 99;place 9;act 0;in 0 0 1;act 0;in 1 1 1;");
        Checks.same("just 1,000", down.growth(), 1000);
        Checks.same("just 1,000, a bound", down.bound(0), 99);
        Checks.fails("bound place", Checks.PLACE, () -> down.bound(2));
        Checks.fails("bound place below", Checks.PLACE, () -> down.bound(-1));
    }

    private static void siphons() {
        TokenHall h = Checks.hall("place 1;place 0;place 0;act 0;act 0;in 0 0 1;out 0 1 1;in 1 1 1;out 1 0 1;out 1 2 1;");
        Checks.same("siphon", h.siphon(false, 0), 3);
        Checks.same("no more siphons", h.siphon(false, 1), 0);
        Checks.same("trap", h.siphon(true, 0), 3);
        Checks.same("a place that nobody takes from", h.siphon(true, 1), 4);
        Checks.same("no more traps", h.siphon(true, 2), 0);
        Checks.same("far beyond", h.siphon(true, Integer.MAX_VALUE), 0);
        Checks.same("is a siphon", h.is(3, 0), true);
        Checks.same("is none", h.is(1, 0), false);
        Checks.same("is none", h.is(4, 0), false);
        Checks.same("more than the least", h.is(7, 0), true);
        Checks.same("is a trap", h.is(4, 1), true);
        Checks.same("is no trap", h.is(2, 1), false);
        Checks.same("the greatest bits", h.is(7, 1), true);
        for (int what = 0; what < 3; what++) {
            int asked = what;
            Checks.fails("no bits", Checks.BAD, () -> h.is(0, asked));
        }
        Checks.fails("siphon -1", Checks.BAD, () -> h.siphon(false, -1));
        Checks.fails("bits of none", Checks.BAD, () -> h.is(8, 0));
        Checks.fails("bits of a place and of none", Checks.BAD, () -> h.is(9, 0));
        Checks.fails("bits below 0", Checks.BAD, () -> h.is(-1, 0));
        Checks.fails("is what", Checks.BAD, () -> h.is(1, 3));
        Checks.fails("is what below", Checks.BAD, () -> h.is(1, -1));
        TokenHall all = Checks.hall("place 0;".repeat(8) + "act 0;");
        for (int i = 0; i < 8; i++) {
            Checks.same("single ones by bits", all.siphon(false, i), 1 << i);
        }
        Checks.same("8 alone", all.siphon(false, 8), 0);
    }

    private static void guarded() {
        TokenHall h = Checks.hall("place 1;place 0;place 0;act 0;act 0;act 0;in 0 0 1;out 0 1 1;in 1 1 1;out 1 0 1;in 2 0 1;in 2 2 1;");
        Checks.same("no trap within", h.is(3, 2), false);
        TokenHall ring = Checks.hall("place 1;place 0;place 5;act 0;act 0;in 0 0 1;out 0 1 1;in 1 1 1;out 1 0 1;");
        Checks.same("guarded", ring.is(3, 2), true);
        ring.put(0, 0);
        Checks.same("not without marks", ring.is(3, 2), false);
        Checks.same("marks of a trap elsewhere within", ring.is(7, 2), true);
        Checks.same("not, if they are none", ring.is(1, 2), false);
    }

    private static void looks() {
        Checks.same("all of them", Checks.hall("place 1;act 0;in 0 0 1;out 0 0 1;").looks(), 31);
        Checks.same("2 are taken", Checks.hall("place 1;act 0;in 0 0 2;out 0 0 1;").looks(), 15);
        Checks.same("2 are given", Checks.hall("place 1;act 0;in 0 0 1;out 0 0 2;").looks(), 15);
        Checks.same("a bar", Checks.hall("place 1;act 0;in 0 0 1;out 0 0 1;bar 0 0 5;").looks(), 23);
        Checks.same("a condition", Checks.hall("place 1;act 0;in 0 0 1;out 0 0 1;if 0 1=1;").looks(), 23);
        Checks.same("a room", Checks.hall("place 1 room 99;act 0;in 0 0 1;out 0 0 1;").looks(), 23);
        Checks.same("nothing is given", Checks.hall("place 1;act 0;in 0 0 1;").looks(), 28);
        Checks.same("two take", Checks.hall("place 1;place 0;act 0;act 0;in 0 0 1;out 0 1 1;in 1 0 1;out 1 1 1;").looks(), 29);
        Checks.same("by other numbers", Checks.hall("place 1;act 0;act 0;in 0 0 1;in 1 0 2;").looks(), 8);
        Checks.same("from others too", Checks.hall("place 1;place 0;act 0;act 0;in 0 0 1;in 1 0 1;in 1 1 1;").looks(), 24);
        Checks.same("from the same ones", Checks.hall("place 1;place 0;act 0;act 0;in 0 0 1;in 0 1 1;in 1 0 1;in 1 1 1;").looks(), 28);
        Checks.same("from two to two", Checks.hall("place 1;place 0;act 0;in 0 0 1;in 0 1 1;out 0 0 1;out 0 1 1;").looks(), 30);
    }

    private static void clocks() {
        TokenHall h = Checks.hall("place 1;place 0;place 0;act 0;act 0;act 0;in 0 0 1;out 0 1 2;in 1 1 1;out 1 2 1;"
                + "in 2 2 2;out 2 0 1;lasts 0 3;lasts 2 1;");
        int[][] due = {{1, 0, 0}, {0, 0, 0}, {0, 0, 0}, {0, 0, 0}, {0, 1, 1}, {0, 0, 0}, {0, 0, 0}};
        for (int m = 0; m < due.length; m++) {
            for (int p = 0; p < 3; p++) {
                Checks.same("clock " + m + " place " + p, h.clock(m, p), due[m][p]);
            }
        }
        Checks.same("one that ended begins anew", h.began(7, 0), 2);
        Checks.same("at once, but once in a moment", h.began(4, 1), 1);
        Checks.same("then again", h.began(5, 1), 2);
        Checks.same("nothing in no moments", h.began(0, 0), 0);
        Checks.same("period from", h.period(0), 1);
        Checks.same("period", h.period(1), 5);
        Checks.same("beat 0", h.beat(0), 1);
        Checks.same("beat 1", h.beat(1), 2);
        Checks.same("beat 2", h.beat(2), 1);
        Checks.same("far away", h.began(2000, 1), 800);
        Checks.same("marks stay", h.marks(0, 0), 1);
        Checks.fails("clock moments", Checks.BAD, () -> h.clock(2001, 0));
        Checks.fails("clock moments below", Checks.BAD, () -> h.clock(-1, 0));
        Checks.fails("clock place", Checks.PLACE, () -> h.clock(0, 3));
        Checks.fails("began moments", Checks.BAD, () -> h.began(2001, 0));
        Checks.fails("began moments below", Checks.BAD, () -> h.began(-1, 0));
        Checks.fails("began act", Checks.ACT, () -> h.began(0, 3));
        Checks.fails("period what", Checks.BAD, () -> h.period(2));
        Checks.fails("period what below", Checks.BAD, () -> h.period(-1));
        Checks.fails("beat act", Checks.ACT, () -> h.beat(3));
    }

    private static void clockEdges() {
        TokenHall both = Checks.hall("place 0 room 1;act 0;act 0;out 0 0 1;out 1 0 1;lasts 0 2;lasts 1 2;");
        Checks.same("what is at work is aside", both.clock(3, 0), 2);
        Checks.same("both began", both.began(3, 0) + both.began(3, 1), 2);
        TokenHall bar = Checks.hall("place 1;place 0;act 0;act 0;in 0 0 1;out 0 1 1;bar 1 1 1;if 1 marks 0=0;lasts 0 2;");
        Checks.same("condition as then", bar.began(1, 1), 1);
        Checks.same("before the bar", bar.began(2, 1), 2);
        Checks.same("a bar as then", bar.began(3, 1), 2);
        TokenHall seen = Checks.hall("place 1;place 0;act 0;act 0;in 0 1 1;out 0 0 1;in 1 0 1;out 1 1 1;");
        Checks.same("acts by number", seen.began(1, 0), 0);
        Checks.same("the second gave at once", seen.clock(1, 1), 1);
        Checks.same("act 0 in the next moment", seen.began(2, 0), 1);
    }

    private static void periods() {
        TokenHall h = Checks.hall("place 0;act 0;out 0 0 1;");
        Checks.same("it fills its room", h.period(0), 999);
        Checks.same("then nothing goes", h.period(1), 1);
        Checks.same("nothing begins", h.beat(0), 0);
        TokenHall slow = Checks.hall("place 0;act 0;out 0 0 1;lasts 0 20;");
        Checks.same("not by 2,000", slow.period(0), -1);
        Checks.same("not by 2,000", slow.period(1), -1);
        Checks.same("not by 2,000", slow.beat(0), -1);
        Checks.same("100 came", slow.clock(2000, 0), 99);
        Checks.same("100 began", slow.began(2000, 0), 100);
        TokenHall two = Checks.hall("place 1;place 0;act 0;act 0;in 0 0 1;out 0 1 1;in 1 1 1;out 1 0 1;lasts 0 1;lasts 1 1;");
        Checks.same("at work or not is a state", two.period(0), 1);
        Checks.same("two moments", two.period(1), 2);
        two.put(0, 0);
        Checks.same("nothing there", two.period(1), 1);
        String tail = ";act 0;act 0;act 0;out 0 0 1;out 1 1 1;out 2 2 1;if 1 marks 0=999;if 2 marks 1=999;";
        TokenHall edge = Checks.hall("place 0;place 0;place 0 room 3" + tail);
        Checks.same("1,999 moments, and the last is like it", edge.period(0), 1999);
        Checks.same("one moment", edge.period(1), 1);
        edge = Checks.hall("place 0;place 0;place 0 room 4" + tail);
        Checks.same("one moment too many", edge.period(0), -1);
        Checks.same("but it went on", edge.clock(2000, 2), 4);
    }

    private static void likeness() {
        Checks.same("all rows of 8", Checks.hall("place 1;".repeat(8) + "act 0;").alike(), 40320);
        Checks.same("marks tell two apart", Checks.hall("place 1;place 1;place 2;act 0;").alike(), 2);
        Checks.same("rooms tell two apart", Checks.hall("place 1;place 1 room 9;act 0;").alike(), 1);
        Checks.same("bars tell two apart", Checks.hall("place 1;place 1;act 0;bar 0 0 1;").alike(), 1);
        String pair = "place 1;place 1;act 5;act 5;in 0 0 1;in 1 1 1;";
        Checks.same("acts change places", Checks.hall(pair).alike(), 2);
        Checks.same("costs tell acts apart", Checks.hall(pair.replace("act 5;act 5;", "act 5;act 6;")).alike(), 1);
        Checks.same("lasts tells acts apart", Checks.hall(pair + "lasts 1 2;").alike(), 1);
        Checks.same("conditions do not", Checks.hall(pair + "if 1 marks 0=0;").alike(), 2);
        Checks.same("numbers do", Checks.hall(pair + "in 1 1 2;").alike(), 1);
        TokenHall h = Checks.hall(pair);
        h.put(0, 9);
        Checks.same("marks as they are do not", h.alike(), 2);
        StringBuilder ring = new StringBuilder("place 0;".repeat(8) + "act 0;".repeat(8));
        StringBuilder cube = new StringBuilder("place 0;".repeat(8) + "act 0;".repeat(8));
        for (int i = 0; i < 8; i++) {
            ring.append("in ").append(i).append(' ').append(i).append(" 1;");
            ring.append("out ").append(i).append(' ').append((i + 1) % 8).append(" 1;");
            cube.append("out").append(i).append(' ').append(i).append(" 1;");
            for (int bit = 1; bit < 8; bit *= 2) {
                cube.append("in").append(i).append(' ').append(i ^ bit).append(" 1;");
            }
        }
        Checks.same("a ring turns", Checks.hall(ring.toString()).alike(), 8);
        Checks.same("a cube turns in 48 ways", Checks.hall(cube.toString()).alike(), 48);
        Checks.same("each place once", Checks.hall("place 0;place 0;place 0;act 0;act 0;in 0 0 1;in 0 1 1;in 1 2 1;").alike(), 2);
        Checks.same("two like acts are still two", Checks.hall("place 0;place 0;act 0;act 0;act 0;in 0 0 1;in 1 0 1;in 2 1 1;").alike(), 1);
    }
}
