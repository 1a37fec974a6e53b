/** The edges of promises 1 to 9: a new object, the tape, texts that become the net, what was told, marks. */
public final class ToldEdgesTest {
    private static final int BLANKS = 0x20202020;
    private static final String TEXT = "place 5;act 3;";

    public static void main(String[] args) {
        constants();
        noNetAnswers();
        noNetFromStates();
        noNetThrows();
        stillNoNet();
        twentyBytes();
        highestFirst();
        moreThanSixHundred();
        firstBytes();
        emptyThen();
        rowsAndImagesGone();
        asIfItWereTheFirst();
        howManyPlaces();
        faultLessTen();
        netStays();
        notTheTapesBytes();
        placeOfTheFault();
        toldOfTheNet();
        arcs();
        acts();
        marks();
        puts();
        putsRefused();
        Checks.end();
    }

    private static void constants() {
        Checks.of("The constants: `FULL = -2`: FULL.");
        Checks.same("FULL", TokenHall.FULL, -2);
        Checks.of("public static final int NONE = -1;");
        Checks.same("NONE", TokenHall.NONE, -1);
    }

    private static void noNetAnswers() {
        Checks.of("`TokenHall()`: No NET.");
        TokenHall h = new TokenHall();
        Checks.same("fault", h.fault(), -1);
        Checks.same("told 0", h.told(0), 0);
        Checks.same("told 1", h.told(1), 0);
        Checks.same("clear", h.clear(), 0);
        Checks.same("judge", h.judge(), -1);
        Checks.same("base 0", h.base(0), 0);
        Checks.same("base 1", h.base(1), 0);
        Checks.same("never", h.never(), false);
        Checks.same("growth", h.growth(), 1);
        Checks.same("siphon", h.siphon(false, 0), 0);
        Checks.same("trap", h.siphon(true, 0), 0);
        Checks.same("looks", h.looks(), 0);
        Checks.same("once", h.once(), 0);
        Checks.same("period 0", h.period(0), 0);
        Checks.same("period 1", h.period(1), 1);
        Checks.same("lots", h.lots(1, 0), 0);
        Checks.same("lots of 1,000", h.lots(1000, -1), 0);
        Checks.same("first 0", h.first(0), 0);
        Checks.same("first 1", h.first(1), -1);
        Checks.same("first 2", h.first(2), -1);
        Checks.same("alike", h.alike(), 0);
        for (int what = 0; what < 3; what++) {
            Checks.same("count " + what, h.count(what), 0);
        }
        Checks.same("restore", h.restore(), -1);
        Checks.same("image", h.image(), 1);
        Checks.same("restore", h.restore(), 0);
    }

    private static void noNetFromStates() {
        for (int most : new int[] {1, 3000}) {
            TokenHall h = new TokenHall();
            Checks.same("states", h.states(most), 1);
            Checks.same("dead 0", h.dead(most, 0), 0);
            Checks.same("dead 1", h.dead(most, 1), -1);
            Checks.same("homes", h.home(most, 0), 1);
            Checks.same("home as they are", h.home(most, 1), 1);
            Checks.same("knots", h.home(most, 2), 1);
            Checks.same("way", h.way(most, false), 0);
            Checks.same("way above", h.way(most, true), 0);
            Checks.same("step", h.step(most, false, 0), -1);
            Checks.same("cheapest", h.cheapest(most, false), 0);
            Checks.same("rows of 0", h.rows(most, 0), 1);
            Checks.same("rows of 1", h.rows(most, 1), 0);
            Checks.same("rows of 20", h.rows(most, 20), 0);
            Checks.same("deepest 0", h.deepest(most, 0), 0);
            Checks.same("deepest 1", h.deepest(most, 1), 0);
        }
    }

    private static void noNetThrows() {
        Checks.refusedWithoutNet("arc", Checks.ACT, h -> h.arc(0, 0, 0));
        Checks.refusedWithoutNet("act", Checks.ACT, h -> h.act(0, 0));
        Checks.refusedWithoutNet("marks", Checks.PLACE, h -> h.marks(0, 0));
        Checks.refusedWithoutNet("room", Checks.PLACE, h -> h.marks(0, 1));
        Checks.refusedWithoutNet("put", Checks.PLACE, h -> h.put(0, 0));
        Checks.refusedWithoutNet("may", Checks.ACT, h -> h.may(0));
        Checks.refusedWithoutNet("fire", Checks.ACT, h -> h.fire(0));
        Checks.refusedWithoutNet("row", Checks.ACT, h -> h.row(0));
        Checks.refusedWithoutNet("state", Checks.PLACE, h -> h.state(1, 0, 0));
        Checks.refusedWithoutNet("lives", Checks.ACT, h -> h.lives(1, 0));
        Checks.refusedWithoutNet("most", Checks.PLACE, h -> h.most(1, 0));
        Checks.refusedWithoutNet("goal", Checks.PLACE, h -> h.goal(0, 0));
        Checks.refusedWithoutNet("kept", Checks.PLACE, h -> h.kept(0, 0));
        Checks.refusedWithoutNet("round", Checks.ACT, h -> h.round(0, 0));
        Checks.refusedWithoutNet("bound", Checks.PLACE, h -> h.bound(0));
        Checks.refusedWithoutNet("is of none", Checks.BAD, h -> h.is(0, 0));
        Checks.refusedWithoutNet("is of one", Checks.BAD, h -> h.is(1, 0));
        Checks.refusedWithoutNet("two", Checks.ACT, h -> h.two(0, 1, 0));
        Checks.refusedWithoutNet("clock", Checks.PLACE, h -> h.clock(0, 0));
        Checks.refusedWithoutNet("began", Checks.ACT, h -> h.began(0, 0));
        Checks.refusedWithoutNet("beat", Checks.ACT, h -> h.beat(0));
        Checks.refusedWithoutNet("lot", Checks.PLACE, h -> h.lot(1, 0, 0));
        Checks.refusedWithoutNet("often", Checks.ACT, h -> h.often(1, 0));
        Checks.refusedWithoutNet("needed", Checks.ACT, h -> h.needed(1, true, 0));
        Checks.refusedWithoutNet("net", Checks.BAD, h -> h.net(1));
    }

    private static void stillNoNet() {
        TokenHall h = new TokenHall();
        Checks.same("a faulty text", Checks.tell(h, "place 7;act 0;act"), -9);
        Checks.same("no places", h.told(0), 0);
        Checks.same("no acts", h.told(1), 0);
        Checks.same("no looks", h.looks(), 0);
        Checks.fails("no marks", Checks.PLACE, () -> h.marks(0, 0));
        Checks.fails("no act", Checks.ACT, () -> h.may(0));
    }

    private static void twentyBytes() {
        Checks.of("Twenty bytes come on the TAPE, of each number the highest first: how many there are");
        TokenHall h = new TokenHall();
        Checks.same("before", h.count(2), 0);
        for (int i = 1; i <= 30; i++) {
            Checks.same("feed " + i, h.feed(BLANKS, BLANKS, BLANKS, BLANKS, BLANKS), 20 * i);
            Checks.same("count behind feed " + i, h.count(2), 20 * i);
        }
        TokenHall text = new TokenHall();
        text.feed(0x706C6163, 0x6520353B, 0x61637420, 0x333B2020, BLANKS);
        Checks.same("place 5;act 3;", text.net(20), 1);
        Checks.same("marks", text.marks(0, 0), 5);
        Checks.same("cost", text.act(0, 0), 3);
    }

    /** One byte that can't stand amid blanks: the fault tells where it came to. */
    private static void highestFirst() {
        for (int at = 0; at < 20; at++) {
            for (int sign : new int[] {0, 33, 127, 128, 255}) {
                int[] numbers = {BLANKS, BLANKS, BLANKS, BLANKS, BLANKS};
                int shift = 24 - at % 4 * 8;
                numbers[at / 4] = BLANKS & ~(255 << shift) | sign << shift;
                TokenHall h = new TokenHall();
                h.feed(numbers[0], numbers[1], numbers[2], numbers[3], numbers[4]);
                Checks.same("a byte " + sign + " at " + at, h.net(20), -9);
                Checks.same("where the byte " + sign + " is", h.fault(), at);
            }
        }
    }

    private static void moreThanSixHundred() {
        Checks.of("NONE, doing nothing, if there would be more than 600");
        TokenHall h = new TokenHall();
        Checks.feed(h, TEXT + " ".repeat(580 - TEXT.length()));
        Checks.same("580 bytes", h.count(2), 580);
        Checks.same("just 600", h.feed(BLANKS, BLANKS, BLANKS, BLANKS, 0x2020203B), 600);
        Checks.same("20 more", h.feed(1, 2, 3, 4, 5), -1);
        Checks.same("20 more, again", h.feed(-1, -1, -1, -1, -1), -1);
        Checks.same("still 600", h.count(2), 600);
        Checks.same("the last byte is as it was", h.net(600), -9);
        Checks.same("the last byte is as it was", h.fault(), 599);
        Checks.same("room again", h.feed(BLANKS, BLANKS, BLANKS, BLANKS, BLANKS), 20);
    }

    private static void firstBytes() {
        Checks.of("The first n bytes of the TAPE");
        for (int n = 14; n <= 20; n++) {
            TokenHall h = new TokenHall();
            Checks.feed(h, "place 5;act 3;act 4;");
            Checks.same("the first " + n, h.net(n), n == 14 || n == 20 ? 1 : -9);
            Checks.same("fault in the first " + n, h.fault(), n == 14 || n == 20 ? -1 : n < 17 ? 14 : n);
            Checks.same("acts of the first " + n, h.told(1), n == 20 ? 2 : n == 14 ? 1 : 0);
        }
        TokenHall all = new TokenHall();
        Checks.feed(all, TEXT);
        Checks.same("none of them", all.net(0), -6);
        Checks.same("a fault at the length 0", all.fault(), 0);
    }

    private static void emptyThen() {
        Checks.of("(empty then)");
        TokenHall h = new TokenHall();
        Checks.feed(h, TEXT + " ".repeat(60));
        h.net(TEXT.length());
        Checks.same("behind a net", h.count(2), 0);
        Checks.feed(h, "nothing like a net");
        h.net(3);
        Checks.same("behind a fault", h.count(2), 0);
        Checks.feed(h, TEXT);
        h.net(0);
        Checks.same("behind a text of no bytes", h.count(2), 0);
        Checks.same("the next bytes are the first ones", Checks.tell(h, TEXT), 1);
    }

    private static void rowsAndImagesGone() {
        Checks.of("are the NET (ROWS, IMAGES gone)");
        TokenHall h = new TokenHall();
        Checks.tell(h, TEXT);
        h.row(0);
        h.row(0);
        h.image();
        h.image();
        h.goal(0, 9);
        h.put(0, 7);
        Checks.tell(h, TEXT);
        Checks.same("rows", h.count(0), 0);
        Checks.same("clear", h.clear(), 0);
        Checks.same("images", h.count(1), 0);
        Checks.same("restore", h.restore(), -1);
        Checks.same("marks as told", h.marks(0, 0), 5);
        Checks.same("goal", h.goal(0, 1), 0);
        TokenHall fresh = new TokenHall();
        fresh.image();
        Checks.tell(fresh, TEXT);
        Checks.same("an image from before the first net", fresh.restore(), -1);
    }

    /** What a hall heard before, with or without faults, is not seen in what it answers. */
    private static void asIfItWereTheFirst() {
        Checks.of("The first n bytes of the TAPE (empty then) are the NET");
        String[] texts = {
            "place 9;place 9;place 9;place 9;act 9;act 8;act 7;in 0 0 1;in 1 1 2;out 1 2 3;in 2 2 1;out 2 3 1;bar 0 1 50;"
                    + "lasts 1 3;lasts 2 5;if 0 marks 0>2 or marks 1=0;if 2 1=1;",
            "place 1;act 0;",
            "place 2;place 0;act 3;act 0;in 0 0 1;out 0 1 1;in 1 1 1;out 1 0 1;lasts 0 2;",
            "place 1;place 0 room 5;act 1;out 0 0 1;in 0 1 1;if 0 [[[[[[marks 1<4]]]]]];",
            "place 3;act 2;act 1;in 0 0 1;",
            "place 2;place 0;place 0;act 0;act 0;in 0 0 1;out 0 1 1;in 1 0 1;out 1 2 1;",
            "place 0;place 0;place 0;act 0;out 0 0 1;out 0 1 1;out 0 2 1;",
            "place 1;place 1;place 1;act 0;act 0;act 0;if 1 1=2;",
        };
        String[] faulty = {"place 9 room 9;act 9;in 0 0 5;out 0 0 5;bar 0 0 9;if 0 [[[[[[1=1", "place 9;".repeat(9)};
        for (String first : texts) {
            for (String second : texts) {
                for (String third : texts) {
                    TokenHall h = Checks.hall(first);
                    h.goal(h.told(0) - 1, 1);
                    String heard = Checks.answers(h);
                    Checks.tell(h, second);
                    Checks.tell(h, faulty[third.length() % 2]);
                    Checks.tell(h, third);
                    h.goal(h.told(0) - 1, 1);
                    TokenHall fresh = Checks.hall(third);
                    fresh.goal(fresh.told(0) - 1, 1);
                    String due = Checks.answers(fresh);
                    Checks.same("'" + third + "' behind '" + second + "'", Checks.answers(h).equals(due), true);
                    Checks.same("'" + first + "' and '" + third + "'", heard.equals(due), first.equals(third));
                }
            }
        }
    }

    private static void howManyPlaces() {
        Checks.of("how many PLACES");
        for (int n = 1; n <= 8; n++) {
            Checks.good("place 0;".repeat(n) + "act 0;", n);
        }
    }

    private static void faultLessTen() {
        Checks.of("or the FAULT less 10");
        TokenHall h = new TokenHall();
        Checks.same("fault 1", Checks.tell(h, "x"), -9);
        Checks.same("fault 2", Checks.tell(h, "act 100;"), -8);
        Checks.same("fault 3", Checks.tell(h, "act 0;".repeat(9)), -7);
        Checks.same("fault 4", Checks.tell(h, "act 0;"), -6);
    }

    private static void netStays() {
        Checks.of("(the NET stays)");
        String[] faulty = {"", "place 9", "place 9;act 9;act 100;", "place 9;".repeat(9), "act 9;in 0 0 1;", "place 9;"};
        for (String text : faulty) {
            TokenHall h = Checks.busy();
            h.net(20);
            String before = Checks.look(h).replaceAll("fault .*", "");
            Checks.tell(h, text);
            String behind = Checks.look(h).replaceAll("fault .*", "");
            Checks.same("all stays but the fault, behind '" + text + "'", behind.equals(before), true);
            Checks.same("its condition", h.states(9), 3);
        }
        TokenHall h = Checks.hall("place 1;place 2;act 0;in 0 0 1;if 0 marks 1=2;");
        Checks.tell(h, "place 8;act 7;if 0 1=2;lasts 0 5;out 0 0 1;x");
        Checks.same("the condition stays", h.may(0), 0);
        Checks.same("the base stays", h.base(0), 1);
        Checks.same("the looks stay", h.looks(), 20);
    }

    private static void notTheTapesBytes() {
        Checks.of("IllegalArgumentException: n is not 0 to the TAPE's bytes (it stays)");
        Checks.refused("-1", Checks.BAD, h -> h.net(-1));
        Checks.refused("one more than there are", Checks.BAD, h -> h.net(21));
        Checks.refused("the least", Checks.BAD, h -> h.net(Integer.MIN_VALUE));
        Checks.refused("the greatest", Checks.BAD, h -> h.net(Integer.MAX_VALUE));
        TokenHall h = new TokenHall();
        Checks.fails("one of an empty tape", Checks.BAD, () -> h.net(1));
        Checks.same("none of an empty tape", h.net(0), -6);
        Checks.feed(h, TEXT);
        Checks.fails("one too many", Checks.BAD, () -> h.net(21));
        Checks.fails("one too few", Checks.BAD, () -> h.net(-1));
        Checks.same("the tape stays", h.count(2), 20);
        Checks.same("and what is on it", h.net(TEXT.length()), 1);
        TokenHall whole = new TokenHall();
        Checks.feed(whole, TEXT + "      ");
        Checks.same("all of them", whole.net(20), 1);
    }

    private static void placeOfTheFault() {
        Checks.of("The place of the FAULT of the latest net(); NONE without.");
        TokenHall h = new TokenHall();
        Checks.same("no net() yet", h.fault(), -1);
        Checks.tell(h, "act 0;x");
        Checks.same("behind a fault", h.fault(), 6);
        Checks.same("asked again", h.fault(), 6);
        Checks.tell(h, " x");
        Checks.same("the latest", h.fault(), 1);
        Checks.fails("a net() that is refused", Checks.BAD, () -> h.net(1));
        Checks.same("behind one that was refused", h.fault(), 1);
        Checks.tell(h, TEXT);
        Checks.same("behind a good one", h.fault(), -1);
        Checks.tell(h, "");
        Checks.same("at 0", h.fault(), 0);
        Checks.tell(h, " ".repeat(600));
        Checks.same("at 600", h.fault(), 600);
    }

    private static void toldOfTheNet() {
        Checks.of("0 PLACES, 1 ACTS (0 without a NET). IllegalArgumentException: another what");
        TokenHall h = Checks.hall("place 0;".repeat(8) + "act 0;".repeat(3));
        Checks.same("places", h.told(0), 8);
        Checks.same("acts", h.told(1), 3);
        for (int what : new int[] {-1, 2, Integer.MIN_VALUE, Integer.MAX_VALUE}) {
            Checks.refused("told " + what, Checks.BAD, x -> x.told(what));
            Checks.refusedWithoutNet("told " + what, Checks.BAD, x -> x.told(what));
        }
    }

    private static void arcs() {
        Checks.of("Of an ACT and a PLACE: 0 what it takes, 1 gives, 2 the bar (0 without)");
        TokenHall h = Checks.hall("place 0;".repeat(8) + "act 0;".repeat(8) + "in 7 7 5;out 7 7 4;bar 7 7 99;in 0 0 1;");
        Checks.same("takes", h.arc(7, 7, 0), 5);
        Checks.same("gives", h.arc(7, 7, 1), 4);
        Checks.same("bar", h.arc(7, 7, 2), 99);
        Checks.same("takes, the first", h.arc(0, 0, 0), 1);
        Checks.same("gives, without", h.arc(0, 0, 1), 0);
        Checks.same("bar, without", h.arc(0, 0, 2), 0);
        Checks.same("another place", h.arc(7, 6, 0), 0);
        Checks.same("another act", h.arc(6, 7, 0), 0);
        Checks.of("NoSuchElementException: no such ACT (so below). IndexOutOfBoundsException: no such PLACE (so below).");
        for (int n : new int[] {-1, 2, 8, Integer.MIN_VALUE, Integer.MAX_VALUE}) {
            Checks.refused("arc of act " + n, Checks.ACT, x -> x.arc(n, 0, 0));
            Checks.refused("arc of place " + n, Checks.PLACE, x -> x.arc(0, n, 0));
        }
        for (int what : new int[] {-1, 3, Integer.MIN_VALUE, Integer.MAX_VALUE}) {
            Checks.refused("arc what " + what, Checks.BAD, x -> x.arc(1, 1, what));
        }
    }

    private static void acts() {
        Checks.of("Of an ACT: 0 COST, 1 lasts, 2 whether it has a condition (1, 0)");
        TokenHall h = Checks.hall("place 0;act 99;act 0;lasts 0 20;if 1 1=2;");
        int[][] due = {{99, 20, 0}, {0, 0, 1}};
        for (int act = 0; act < 2; act++) {
            for (int what = 0; what < 3; what++) {
                Checks.same("act " + act + " what " + what, h.act(act, what), due[act][what]);
            }
        }
        for (int n : new int[] {-1, 2, Integer.MIN_VALUE, Integer.MAX_VALUE}) {
            Checks.refused("act " + n, Checks.ACT, x -> x.act(n, 0));
        }
        for (int what : new int[] {-1, 3, Integer.MIN_VALUE, Integer.MAX_VALUE}) {
            Checks.refused("act what " + what, Checks.BAD, x -> x.act(0, what));
        }
        Checks.tell(h, "place 0;act 5;act 6;");
        Checks.same("no condition from an older net", h.act(1, 2), 0);
    }

    private static void marks() {
        Checks.of("MARKS of a PLACE (what 0), its room (1; 999)");
        TokenHall h = Checks.hall("place 99 room 99;place 0 room 1;place 0;act 0;");
        int[][] due = {{99, 99}, {0, 1}, {0, 999}};
        for (int place = 0; place < 3; place++) {
            Checks.same("marks of " + place, h.marks(place, 0), due[place][0]);
            Checks.same("room of " + place, h.marks(place, 1), due[place][1]);
        }
        for (int n : new int[] {-1, 2, Integer.MIN_VALUE, Integer.MAX_VALUE}) {
            Checks.refused("marks of place " + n, Checks.PLACE, x -> x.marks(n, 0));
            Checks.refused("marks what " + n, Checks.BAD, x -> x.marks(0, n));
        }
    }

    private static void puts() {
        Checks.of("MARKS of a PLACE are told (0 to 99): what they were");
        TokenHall h = Checks.hall("place 5;place 6;act 0;");
        int was = 5;
        for (int n : new int[] {0, 1, 98, 99, 99, 0}) {
            Checks.same("put " + n, h.put(0, n), was);
            Checks.same("marks behind put " + n, h.marks(0, 0), n);
            was = n;
        }
        Checks.same("the other place", h.marks(1, 0), 6);
        TokenHall more = Checks.hall("place 99;act 0;out 0 0 1;");
        more.fire(0);
        Checks.same("what they were may be more", more.put(0, 99), 100);
    }

    private static void putsRefused() {
        Checks.of("IllegalArgumentException: the number, or there is no room");
        for (int n : new int[] {-1, 100, Integer.MIN_VALUE, Integer.MAX_VALUE}) {
            Checks.refused("put " + n, Checks.BAD, x -> x.put(0, n));
        }
        Checks.refused("one beyond the room", Checks.BAD, x -> x.put(1, 4));
        Checks.refused("99 beyond the room", Checks.BAD, x -> x.put(1, 99));
        TokenHall h = Checks.busy();
        Checks.same("one less than the room", h.put(1, 2), 1);
        Checks.same("just the room", h.put(1, 3), 2);
        TokenHall wide = Checks.hall("place 0 room 99;place 0 room 1;act 0;");
        Checks.same("99 in a room of 99", wide.put(0, 99), 0);
        Checks.fails("100 in a room of 99", Checks.BAD, () -> wide.put(0, 100));
        Checks.same("1 in a room of 1", wide.put(1, 1), 0);
        Checks.fails("2 in a room of 1", Checks.BAD, () -> wide.put(1, 2));
        Checks.same("still 1", wide.marks(1, 0), 1);
        for (int n : new int[] {-1, 2, Integer.MIN_VALUE, Integer.MAX_VALUE}) {
            Checks.refused("put in place " + n, Checks.PLACE, x -> x.put(n, 0));
        }
    }
}
