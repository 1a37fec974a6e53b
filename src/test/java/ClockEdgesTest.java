/** The edges of acts at once, by clocks and by lots (==== 4. of the document), and of promises 35 to 42. */
public final class ClockEdgesTest {
    private static final int NONE = -1;
    private static final int[] NO_NUMBERS = {-1, 2, 8, Integer.MIN_VALUE, Integer.MAX_VALUE};

    public static void main(String[] args) {
        takingsTogether();
        greatestAndLeast();
        against();
        alike();
        twoRefused();
        endsGiveFirst();
        actsByNumber();
        atMostAtOneTime();
        asThen();
        roomForWhatItGives();
        lastsLater();
        fromMarksAsTheyAre();
        momentsToldOf();
        beganInThem();
        firstThatComesAgain();
        farBeyondItsRound();
        eightAndEight();
        byTwoThousand();
        periodRefused();
        draws();
        thoseThatMay();
        itWraps();
        itEnds();
        lotsRefused();
        Checks.end();
    }

    private static void takingsTogether() {
        Checks.of("AT ONCE: a set of ACTS, each of which MAY be done now, and all of whose takings together are there");
        TokenHall h = Checks.hall("place 4;act 0;act 0;in 0 0 2;in 1 0 3;");
        Checks.same("one fewer than both take", h.once(), 1);
        h.put(0, 5);
        Checks.same("just what both take", h.once(), 3);
        h.put(0, 6);
        Checks.same("one more", h.once(), 3);
        h.put(0, 2);
        Checks.same("the second may not", h.once(), 1);
        h.put(0, 1);
        Checks.same("none may", h.once(), 0);
        Checks.same("what one gives is not there yet",
                Checks.hall("place 1;act 0;act 0;in 0 0 1;out 0 0 1;in 1 0 1;").once(), 1);
        Checks.same("room is not shared", Checks.hall("place 0 room 1;act 0;act 0;out 0 0 1;out 1 0 1;").once(), 3);
        Checks.same("a bar", Checks.hall("place 1;act 0;act 0;bar 0 0 1;").once(), 2);
        Checks.same("a condition", Checks.hall("place 1;act 0;act 0;if 1 1=2;").once(), 1);
        Checks.same("no room", Checks.hall("place 1 room 1;act 0;act 0;out 0 0 1;").once(), 2);
    }

    private static void greatestAndLeast() {
        Checks.of("the greatest set, of these the least (bits)");
        Checks.same("all 8", Checks.hall("place 0;" + "act 0;".repeat(8)).once(), 255);
        String eight = "place 0;" + "act 0;".repeat(8);
        StringBuilder each = new StringBuilder(eight);
        for (int t = 0; t < 8; t++) {
            each.append("in ").append(t).append(" 0 1;");
        }
        TokenHall h = Checks.hall(each.toString());
        for (int n = 0; n <= 9; n++) {
            h.put(0, n);
            Checks.same("the least with " + n + " marks", h.once(), n > 8 ? 255 : (1 << n) - 1);
        }
        TokenHall greedy = Checks.hall("place 2;act 0;act 0;act 0;in 0 0 2;in 1 0 1;in 2 0 1;");
        Checks.same("the greatest is not the least", greedy.once(), 6);
    }

    private static void against() {
        Checks.of("AGAINST one another are two that MAY, but not AT ONCE");
        TokenHall h = Checks.hall("place 4;act 0;act 0;in 0 0 2;in 1 0 3;");
        Checks.same("one fewer than both take", h.two(0, 1, 0), true);
        Checks.same("the other way round", h.two(1, 0, 0), true);
        h.put(0, 5);
        Checks.same("just what both take", h.two(0, 1, 0), false);
        h.put(0, 2);
        Checks.same("one may not", h.two(0, 1, 0), false);
        Checks.same("one may not, the other way round", h.two(1, 0, 0), false);
        h.put(0, 0);
        Checks.same("none may", h.two(0, 1, 0), false);
        Checks.same("room is no matter",
                Checks.hall("place 0 room 1;act 0;act 0;out 0 0 1;out 1 0 1;").two(0, 1, 0), false);
        TokenHall third = Checks.hall("place 1;act 0;act 0;act 0;in 0 0 1;in 1 0 1;in 2 0 1;if 2 1=2;");
        Checks.same("a condition", third.two(0, 2, 0), false);
        Checks.same("a third act is no matter", third.two(0, 1, 0), true);
    }

    private static void alike() {
        Checks.of("ALIKE: each MAY be done behind the other one, with the same MARKS then");
        TokenHall h = Checks.hall("place 4;act 0;act 0;in 0 0 2;in 1 0 3;");
        Checks.same("one fewer than both take", h.two(0, 1, 1), false);
        h.put(0, 5);
        Checks.same("just what both take", h.two(0, 1, 1), true);
        Checks.same("just what both take, the other way round", h.two(1, 0, 1), true);
        TokenHall given = Checks.hall("place 1;place 0;act 0;act 0;in 0 0 1;out 0 1 1;in 1 1 1;");
        Checks.same("the second only behind the first", given.two(0, 1, 1), false);
        Checks.same("the second only behind the first", given.two(1, 0, 1), false);
        given.put(1, 1);
        Checks.same("either", given.two(0, 1, 1), true);
        Checks.same("back again", Checks.hall("place 1;act 0;act 0;in 0 0 1;out 0 0 1;in 1 0 1;").two(0, 1, 1), false);
        Checks.same("room for one", Checks.hall("place 0 room 1;act 0;act 0;out 0 0 1;out 1 0 1;").two(0, 1, 1), false);
        Checks.same("room for two", Checks.hall("place 0 room 2;act 0;act 0;out 0 0 1;out 1 0 1;").two(0, 1, 1), true);
        Checks.same("a bar behind", Checks.hall("place 0;act 0;act 0;out 0 0 1;bar 1 0 1;").two(0, 1, 1), false);
        Checks.same("a condition behind", Checks.hall("place 0;act 0;act 0;out 0 0 1;if 1 marks 0=0;").two(0, 1, 1), false);
    }

    private static void twoRefused() {
        Checks.of("IllegalArgumentException: they are one, or what.");
        for (int what = 0; what < 2; what++) {
            int asked = what;
            Checks.refused("act 0 twice", Checks.BAD, h -> h.two(0, 0, asked));
            Checks.refused("act 1 twice", Checks.BAD, h -> h.two(1, 1, asked));
            for (int act : NO_NUMBERS) {
                Checks.refused("act " + act, Checks.ACT, h -> h.two(act, 0, asked));
                Checks.refused("other " + act, Checks.ACT, h -> h.two(0, act, asked));
                Checks.refused("act " + act + " twice", Checks.ACT, h -> h.two(act, act, asked));
            }
        }
        for (int what : new int[] {-1, 2, Integer.MIN_VALUE, Integer.MAX_VALUE}) {
            Checks.refused("what " + what, Checks.BAD, h -> h.two(0, 1, what));
        }
        TokenHall h = Checks.busy();
        String before = Checks.look(h);
        h.two(0, 1, 0);
        h.two(0, 1, 1);
        h.once();
        Checks.stays("two and once", h, before);
    }

    private static void endsGiveFirst() {
        Checks.of("in each MOMENT first those that end give");
        TokenHall h = Checks.hall("place 1;place 0;act 0;act 0;in 0 1 1;in 1 0 1;out 1 1 1;lasts 1 2;");
        Checks.same("not yet", h.began(2, 0), 0);
        Checks.same("in the moment in which it ends", h.began(3, 0), 1);
        TokenHall all = Checks.hall("place 0;place 1;place 1;act 0;act 0;act 0;in 0 0 2;in 1 1 1;out 1 0 1;in 2 2 1;out 2 0 1;"
                + "lasts 1 1;lasts 2 1;");
        Checks.same("all that end, ahead of any act", all.began(2, 0), 1);
        TokenHall self = Checks.hall("place 1;act 0;in 0 0 1;out 0 0 1;lasts 0 1;");
        Checks.same("it ends and begins again", self.began(5, 0), 5);
    }

    private static void actsByNumber() {
        Checks.of("then the ACTS by number");
        TokenHall both = Checks.hall("place 1;act 0;act 0;in 0 0 1;in 1 0 1;");
        Checks.same("the first takes it", both.began(1, 0), 1);
        Checks.same("the second does not", both.began(2, 1), 0);
        TokenHall line = Checks.hall("place 1;place 0;place 0;act 0;act 0;in 0 0 1;out 0 1 1;in 1 1 1;out 1 2 1;");
        Checks.same("what is given at once is there", line.clock(1, 2), 1);
        TokenHall back = Checks.hall("place 1;place 0;place 0;act 0;act 0;in 0 1 1;out 0 2 1;in 1 0 1;out 1 1 1;");
        Checks.same("not for those ahead", back.clock(1, 2), 0);
        Checks.same("but in the next moment", back.clock(2, 2), 1);
    }

    private static void atMostAtOneTime() {
        Checks.of("each one at most at one time: if it is not at work");
        TokenHall h = Checks.hall("place 5;act 0;in 0 0 1;lasts 0 3;");
        int[] due = {0, 1, 1, 1, 2, 2, 2, 3};
        for (int m = 0; m < due.length; m++) {
            Checks.same("began in " + m, h.began(m, 0), due[m]);
            Checks.same("marks behind " + m, h.clock(m, 0), 5 - due[m]);
        }
        Checks.same("all five", h.began(13, 0), 5);
        Checks.of("(0: at once, and it may not begin again in this MOMENT)");
        TokenHall quick = Checks.hall("place 5;place 0;act 0;in 0 0 1;out 0 1 1;");
        for (int m = 0; m < 8; m++) {
            Checks.same("one in a moment, " + m, quick.began(m, 0), Math.min(m, 5));
            Checks.same("given at once, " + m, quick.clock(m, 1), Math.min(m, 5));
        }
    }

    private static void asThen() {
        Checks.of("MAY begin (takes; bars, conditions as then");
        TokenHall takes = Checks.hall("place 1;act 0;in 0 0 2;");
        Checks.same("one too few", takes.began(9, 0), 0);
        takes.put(0, 2);
        Checks.same("just enough", takes.began(9, 0), 1);
        TokenHall behind = Checks.hall("place 0;act 0;act 0;out 0 0 1;bar 1 0 1;");
        Checks.same("a bar by what was just given", behind.began(9, 1), 0);
        TokenHall ahead = Checks.hall("place 0;act 0;act 0;bar 0 0 1;out 1 0 1;");
        Checks.same("not yet in the first moment", ahead.began(9, 0), 1);
        TokenHall edge = Checks.hall("place 0;act 0;act 0;bar 0 0 3;out 1 0 1;");
        Checks.same("with 0, 1 and 2 there", edge.began(9, 0), 3);
        TokenHall holds = Checks.hall("place 0;act 0;act 0;out 0 0 1;if 1 marks 0=3;");
        Checks.same("in the third moment", holds.began(2, 1), 0);
        Checks.same("in the third moment", holds.began(3, 1), 1);
        Checks.same("and in no other", holds.began(9, 1), 1);
    }

    private static void roomForWhatItGives() {
        Checks.of("room for what it gives, all that is at work aside)");
        TokenHall one = Checks.hall("place 1 room 2;act 0;out 0 0 1;lasts 0 2;");
        Checks.same("room for one", one.began(2, 0), 1);
        Checks.same("then for none", one.began(9, 0), 1);
        TokenHall full = Checks.hall("place 2 room 2;act 0;out 0 0 1;lasts 0 2;");
        Checks.same("no room", full.began(9, 0), 0);
        TokenHall two = Checks.hall("place 0 room 1;act 0;act 0;out 0 0 1;out 1 0 1;lasts 0 2;lasts 1 2;");
        Checks.same("the other one at work is no matter", two.began(1, 1), 1);
        Checks.same("both give", two.clock(3, 0), 2);
        TokenHall atOnce = Checks.hall("place 0 room 1;act 0;act 0;out 0 0 1;out 1 0 1;");
        Checks.same("what is given at once does matter", atOnce.began(9, 1), 0);
        TokenHall self = Checks.hall("place 1 room 1;act 0;in 0 0 1;out 0 0 1;lasts 0 2;");
        Checks.same("taken, then given", self.began(1, 0), 1);
    }

    private static void lastsLater() {
        Checks.of("it takes, and gives lasts MOMENTS later");
        for (int d : new int[] {0, 1, 2, 19, 20}) {
            TokenHall h = Checks.hall("place 1;place 0;act 0;in 0 0 1;out 0 1 1;lasts 0 " + d + ";");
            Checks.same("taken at once", h.clock(1, 0), 0);
            Checks.same("not given by " + d, h.clock(d, 1), 0);
            Checks.same("given in the next", h.clock(d + 1, 1), 1);
            Checks.same("and not again", h.clock(2000, 1), 1);
        }
    }

    private static void fromMarksAsTheyAre() {
        Checks.of("It goes on so from MARKS as they are, nobody at work");
        TokenHall h = Checks.hall("place 2;place 0;act 0;in 0 0 1;out 0 1 1;lasts 0 5;");
        Checks.same("as told", h.clock(20, 1), 2);
        h.put(0, 3);
        Checks.same("as they are", h.clock(20, 1), 3);
        h.fire(0);
        Checks.same("one is done", h.clock(0, 1), 1);
        Checks.same("nobody is at work", h.clock(1, 0), 1);
        String before = Checks.look(h);
        h.clock(2000, 0);
        h.began(2000, 0);
        h.period(0);
        h.beat(0);
        Checks.stays("clocks", h, before);
    }

    private static void momentsToldOf() {
        Checks.of("BY CLOCKS, MARKS of a PLACE as so many MOMENTS (0 to 2,000) have gone by.");
        TokenHall h = Checks.hall("place 7;act 0;act 0;out 0 0 1;in 1 0 1;lasts 1 20;");
        Checks.same("none", h.clock(0, 0), 7);
        Checks.same("one", h.clock(1, 0), 7);
        Checks.same("two", h.clock(2, 0), 8);
        TokenHall slow = Checks.hall("place 0;act 0;out 0 0 1;lasts 0 3;");
        Checks.same("1,998", slow.clock(1998, 0), 665);
        Checks.same("1,999", slow.clock(1999, 0), 666);
        Checks.same("2,000", slow.clock(2000, 0), 666);
        Checks.of("IllegalArgumentException: so many.");
        for (int n : new int[] {-1, 2001, Integer.MIN_VALUE, Integer.MAX_VALUE}) {
            Checks.refused("clock " + n, Checks.BAD, x -> x.clock(n, 0));
            Checks.refused("began " + n, Checks.BAD, x -> x.began(n, 0));
        }
        for (int n : NO_NUMBERS) {
            Checks.refused("clock of place " + n, Checks.PLACE, x -> x.clock(0, n));
            Checks.refused("began of act " + n, Checks.ACT, x -> x.began(0, n));
        }
    }

    private static void beganInThem() {
        Checks.of("How often an ACT began in them.");
        TokenHall h = Checks.hall("place 0;act 0;act 0;out 0 0 1;lasts 0 3;if 1 1=2;");
        Checks.same("in none", h.began(0, 0), 0);
        Checks.same("in one", h.began(1, 0), 1);
        Checks.same("in three", h.began(3, 0), 1);
        Checks.same("in four", h.began(4, 0), 2);
        Checks.same("in 1,999", h.began(1999, 0), 667);
        Checks.same("in 2,000", h.began(2000, 0), 667);
        Checks.same("never", h.began(2000, 1), 0);
        TokenHall all = Checks.hall("place 0;act 0;");
        Checks.same("in each of 2,000", all.began(2000, 0), 2000);
    }

    private static void firstThatComesAgain() {
        Checks.of("PERIOD: the first STATE that comes again (MARKS, and how long each is at work yet, as a MOMENT begins)");
        TokenHall still = Checks.hall("place 0;act 0;in 0 0 1;");
        Checks.same("nothing goes: ahead of", still.period(0), 0);
        Checks.same("nothing goes: later", still.period(1), 1);
        Checks.same("nothing goes: often", still.beat(0), 0);
        TokenHall round = Checks.hall("place 1;act 0;in 0 0 1;out 0 0 1;");
        Checks.same("once in a moment: ahead of", round.period(0), 0);
        Checks.same("once in a moment: later", round.period(1), 1);
        Checks.same("once in a moment: often", round.beat(0), 1);
        for (int d : new int[] {1, 2, 19, 20}) {
            TokenHall h = Checks.hall("place 1;act 0;act 0;in 0 0 1;out 0 0 1;in 1 0 2;lasts 0 " + d + ";");
            Checks.same("ahead of, by " + d, h.period(0), 1);
            Checks.same("later, by " + d, h.period(1), d);
            Checks.same("often, by " + d, h.beat(0), 1);
            Checks.same("often, another, by " + d, h.beat(1), 0);
        }
        TokenHall both = Checks.hall("place 1;place 1;act 0;act 0;in 0 0 1;out 0 0 1;lasts 0 4;in 1 1 1;out 1 1 1;lasts 1 6;");
        Checks.same("of 4 and 6: ahead of", both.period(0), 1);
        Checks.same("of 4 and 6: later", both.period(1), 12);
        Checks.same("of 4 and 6: often", both.beat(0), 3);
        Checks.same("of 4 and 6: often", both.beat(1), 2);
    }

    /** The mark goes from place 0 to 1, 2, 3, and from there by 0 to 1 in one moment: rounds of 3 from the second on. */
    private static void farBeyondItsRound() {
        Checks.of("It goes on so");
        String text = "place 1;place 0;place 0;place 0;act 0;act 0;act 0;act 0;in 0 3 1;out 0 0 1;in 1 2 1;out 1 3 1;"
                + "in 2 1 1;out 2 2 1;in 3 0 1;out 3 1 1;";
        for (int m : new int[] {0, 1, 2, 3, 4, 5, 6, 7, 8, 9, 100, 101, 102, 1998, 1999, 2000}) {
            TokenHall h = Checks.hall(text);
            int at = m == 0 ? 0 : 1 + (m - 1) % 3;
            for (int p = 0; p < 4; p++) {
                Checks.same("moment " + m + " place " + p, h.clock(m, p), p == at ? 1 : 0);
            }
            int[] due = {m == 0 ? 0 : (m - 1) / 3, m / 3, (m + 1) / 3, m == 0 ? 0 : 1 + (m - 1) / 3};
            for (int t = 0; t < 4; t++) {
                Checks.same("moment " + m + " act " + t, h.began(m, t), due[t]);
            }
            Checks.same("its round begins", h.period(0), 1);
            Checks.same("its round", h.period(1), 3);
            Checks.same("moment " + m + " again", h.clock(m, at), 1);
            Checks.same("moment " + m + " began again", h.began(m, 3), due[3]);
            Checks.tell(h, "place 0;act 0;out 0 0 1;lasts 0 20;");
            Checks.same("none in another net", h.period(0), NONE);
            Checks.same("none in another net", h.beat(0), NONE);
        }
    }

    /** Acts of which each gives every so many moments, up to 8 places and 8 acts. */
    private static void eightAndEight() {
        Checks.of("(MARKS, and how long each is at work yet, as a MOMENT begins)");
        int[] lasts = {3, 4, 5, 7, 9, 11, 13, 20};
        StringBuilder text = new StringBuilder("place 0;".repeat(8) + "act 0;".repeat(8));
        for (int t = 0; t < 8; t++) {
            text.append("out ").append(t).append(' ').append(t).append(" 1;lasts ").append(t).append(' ').append(lasts[t]);
            text.append(';');
        }
        TokenHall h = Checks.hall(text.toString());
        Checks.same("no round", h.period(0), NONE);
        for (int m : new int[] {0, 1, 21, 1000, 2000}) {
            for (int t = 0; t < 8; t++) {
                Checks.same("given by act " + t + " in " + m, h.clock(m, t), m == 0 ? 0 : (m - 1) / lasts[t]);
                Checks.same("begun by act " + t + " in " + m, h.began(m, t), m == 0 ? 0 : 1 + (m - 1) / lasts[t]);
            }
        }
        TokenHall once = Checks.hall(text.toString().replace("place 0;", "place 1 room 1;").replace("out ", "in "));
        Checks.same("each is done once", once.period(0), 21);
        Checks.same("then nothing", once.period(1), 1);
    }

    private static String slowly(int last) {
        return "place 0;place 0;place 0 room " + last + ";place 1;act 0;act 0;act 0;act 0;out 0 0 1;out 1 1 1;out 2 2 1;"
                + "if 1 marks 0=999;if 2 marks 1=999;in 3 3 1;out 3 3 1;lasts 3 2;if 3 marks 2=" + last + ";";
    }

    /** Place 2 is full behind moment 1,995 + its room, in which act 3 begins: a round of 2 moments from the next one on. */
    private static void byTwoThousand() {
        Checks.of("by 2,000 MOMENTS");
        for (int last = 1; last <= 4; last++) {
            TokenHall h = Checks.hall(slowly(last));
            boolean found = last <= 2;
            Checks.same("ahead of which, with " + last, h.period(0), found ? 1996 + last : NONE);
            Checks.same("how many, with " + last, h.period(1), found ? 2 : NONE);
            Checks.same("how often, with " + last, h.beat(3), found ? 1 : NONE);
            Checks.same("how often another, with " + last, h.beat(0), found ? 0 : NONE);
            Checks.same("the clock goes on, with " + last, h.clock(2000, 2), last);
        }
        Checks.of("PERIOD: 0 ahead of which MOMENT, 1 how many; NONE: not by 2,000.");
        for (int last = 2; last <= 4; last++) {
            TokenHall h = Checks.hall(slowly(last).replace("out 3 3 1;lasts 3 2;", "bar 3 0 1;"));
            Checks.same("still from then on, with " + last, h.period(0), last == 4 ? NONE : 1996 + last);
            Checks.same("still, with " + last, h.period(1), last == 4 ? NONE : 1);
        }
    }

    private static void periodRefused() {
        Checks.of("IllegalArgumentException: another what (so below)");
        for (int what : NO_NUMBERS) {
            Checks.refused("period " + what, Checks.BAD, h -> h.period(what));
            Checks.refusedWithoutNet("period " + what, Checks.BAD, h -> h.period(what));
        }
        Checks.of("How often an ACT begins in a PERIOD; NONE likewise.");
        for (int act : NO_NUMBERS) {
            Checks.refused("beat " + act, Checks.ACT, h -> h.beat(act));
        }
    }

    /** Acts of which each gives to a place of its own; only those of the set may be done. */
    private static TokenHall counting(int set) {
        StringBuilder text = new StringBuilder("place 0;".repeat(8) + "act 0;".repeat(8));
        for (int t = 0; t < 8; t++) {
            text.append("out ").append(t).append(' ').append(t).append(" 1;");
            if ((set >> t & 1) == 0) {
                text.append("if ").append(t).append(" 1=2;");
            }
        }
        return Checks.hall(text.toString());
    }

    private static void judgeLots(int set, int n, int seed) {
        int[] due = new int[8];
        long rest = seed & 0xFFFFFFFFL;
        for (int i = 0; i < n; i++) {
            rest = (rest * 1103515245L + 12345L) % (1L << 32);
            long drawn = rest / 65536 % 32768 % Integer.bitCount(set);
            int act = 0;
            for (int t = 0, left = (int) drawn; t < 8; t++) {
                if ((set >> t & 1) == 1 && left-- == 0) {
                    act = t;
                }
            }
            due[act]++;
        }
        TokenHall h = counting(set);
        for (int p = 0; p < 8; p++) {
            Checks.same("lot(" + n + ", " + seed + ", " + p + ") of " + set, h.lot(n, seed, p), due[p]);
        }
        Checks.same("lots(" + n + ", " + seed + ") of " + set, h.lots(n, seed), n);
    }

    private static void draws() {
        Checks.of("BY LOTS, n ACTS (1 to 1,000): of those that MAY be done a DRAW of how many tells which");
        for (int n : new int[] {1, 2, 3, 500, 999}) {
            judgeLots(255, n, 7);
        }
        judgeLots(3, 1000, 7);
        judgeLots(255, 1000, 12345);
    }

    private static void thoseThatMay() {
        Checks.of("from 0 on, the lesser first");
        for (int set : new int[] {1, 128, 129, 7, 224, 84, 171, 127, 254}) {
            judgeLots(set, 40, 99);
            judgeLots(set, 1, 3);
        }
    }

    private static void itWraps() {
        Checks.of("the SEED (32 bits) becomes itself times 1,103,515,245, and 12,345 (it wraps)");
        for (int seed : new int[] {0, 1, -1, 65535, 65536, 1 << 30, Integer.MAX_VALUE, Integer.MIN_VALUE, -12345}) {
            judgeLots(255, 1, seed);
            judgeLots(127, 60, seed);
            judgeLots(7, 60, seed);
        }
    }

    private static void itEnds() {
        Checks.of("It ends, if none MAY.");
        TokenHall h = Checks.hall("place 3;place 0;act 0;in 0 0 1;out 0 1 1;");
        for (int n = 1; n <= 6; n++) {
            Checks.same("lots of " + n, h.lots(n, n), Math.min(n, 3));
            Checks.same("left behind " + n, h.lot(n, n, 0), 3 - Math.min(n, 3));
            Checks.same("come behind " + n, h.lot(n, n, 1), Math.min(n, 3));
        }
        Checks.same("lots of 1,000", h.lots(1000, 0), 3);
        h.put(0, 0);
        Checks.same("none at all", h.lots(1000, 0), 0);
        Checks.same("none at all, marks", h.lot(1, 0, 0), 0);
        Checks.same("999, and then no room", Checks.hall("place 1;act 0;out 0 0 1;").lots(1000, 0), 998);
        Checks.same("1,000 of an act that may always be done", Checks.hall("place 1;act 0;").lots(1000, 0), 1000);
    }

    private static void lotsRefused() {
        Checks.of("BY LOTS: how many ACTS were done (nothing stays changed). IllegalArgumentException: n.");
        for (int n : new int[] {0, -1, 1001, Integer.MIN_VALUE, Integer.MAX_VALUE}) {
            Checks.refused("lots " + n, Checks.BAD, h -> h.lots(n, 1));
            Checks.refused("lot " + n, Checks.BAD, h -> h.lot(n, 1, 0));
            Checks.refusedWithoutNet("lots " + n, Checks.BAD, h -> h.lots(n, 1));
        }
        for (int place : NO_NUMBERS) {
            Checks.refused("lot of place " + place, Checks.PLACE, h -> h.lot(1, 1, place));
        }
        TokenHall h = Checks.busy();
        String before = Checks.look(h);
        h.lots(1000, 5);
        h.lot(999, 5, 1);
        Checks.stays("lots", h, before);
    }
}
