/** Promises 1 to 9 and 50: a new object, the tape, texts and their faults, what was told. */
public final class TextTest {
    private static final String SMALL = "place 2;place 0 room 3;act 4;";

    public static void main(String[] args) {
        newObject();
        tape();
        goodTexts();
        faultsOfWhatCannotStand();
        faultsOfNumbers();
        faultsOfTooMany();
        faultsOfNothing();
        faultLeavesTheNet();
        manyLongTexts();
        toldAndArcs();
        marksAndPut();
        Checks.end();
    }

    private static void newObject() {
        TokenHall h = new TokenHall();
        Checks.same("new fault", h.fault(), -1);
        Checks.same("new told 0", h.told(0), 0);
        Checks.same("new told 1", h.told(1), 0);
        Checks.same("new looks", h.looks(), 0);
        Checks.same("new alike", h.alike(), 0);
        Checks.same("new judge", h.judge(), -1);
        Checks.same("new clear", h.clear(), 0);
        Checks.same("new states", h.states(1), 1);
        Checks.same("new dead", h.dead(1, 0), 0);
        Checks.same("new dead 1", h.dead(1, 1), -1);
        Checks.same("new home 0", h.home(1, 0), 1);
        Checks.same("new home 1", h.home(1, 1), 1);
        Checks.same("new home 2", h.home(1, 2), 1);
        Checks.same("new way", h.way(1, false), 0);
        Checks.same("new step", h.step(1, true, 0), -1);
        Checks.same("new cheapest", h.cheapest(1, true), 0);
        Checks.same("new rows 0", h.rows(1, 0), 1);
        Checks.same("new rows 1", h.rows(1, 1), 0);
        Checks.same("new base", h.base(0) + h.base(1), 0);
        Checks.same("new never", h.never(), false);
        Checks.same("new growth", h.growth(), 1);
        Checks.same("new siphon", h.siphon(true, 0), 0);
        Checks.fails("new is of none", Checks.BAD, () -> h.is(0, 0));
        Checks.fails("new is of a place", Checks.BAD, () -> h.is(1, 0));
        Checks.same("new once", h.once(), 0);
        Checks.same("new period", h.period(1), 1);
        Checks.same("new lots", h.lots(1000, 5), 0);
        Checks.same("new deepest", h.deepest(1, 0) + h.deepest(1, 1), 0);
        Checks.same("new first 0", h.first(0), 0);
        Checks.same("new first 1", h.first(1), -1);
        Checks.same("new first 2", h.first(2), -1);
        Checks.same("new image", h.image(), 1);
        Checks.same("new restore", h.restore(), 0);
        Checks.fails("new marks", Checks.PLACE, () -> h.marks(0, 0));
        Checks.fails("new may", Checks.ACT, () -> h.may(0));
        Checks.same("NONE", TokenHall.NONE, -1);
        Checks.same("FULL", TokenHall.FULL, -2);
    }

    private static void tape() {
        TokenHall h = new TokenHall();
        for (int i = 1; i <= 30; i++) {
            Checks.same("feed " + i, h.feed(i, 2, 3, 4, 5), 20 * i);
        }
        Checks.same("feed too much", h.feed(1, 2, 3, 4, 5), -1);
        Checks.same("count of the tape", h.count(2), 600);
        Checks.fails("net of 601", Checks.BAD, () -> h.net(601));
        Checks.fails("net of -1", Checks.BAD, () -> h.net(-1));
        Checks.same("tape stays", h.count(2), 600);
        Checks.same("no fault yet", h.fault(), -1);
        Checks.same("net of rubbish", h.net(600), -9);
        Checks.same("tape is empty", h.count(2), 0);
        Checks.same("fault of rubbish", h.fault(), 0);
        Checks.fails("net of an empty tape", Checks.BAD, () -> h.net(1));
        Checks.same("fault stays", h.fault(), 0);
        Checks.same("count of others", h.count(3), -1);
        Checks.same("count of others", h.count(-1), -1);
        Checks.feed(h, SMALL + "this is behind what is told");
        Checks.same("only the first bytes", h.net(SMALL.length()), 2);
        Checks.same("no fault", h.fault(), -1);
        Checks.same("all of the tape goes", h.count(2), 0);
        long high = h.feed(0x706C6163, 0x65FF003B, -1, 0, 0);
        Checks.same("bytes above 127", high, 20);
        Checks.same("net with such a byte", h.net(20), -9);
        Checks.same("fault at it", h.fault(), 5);
    }

    private static void goodTexts() {
        String[] good = {
            "place0;act0;", "  place  0  ;  act  0  ;  ", "act 0;place 0;",
            "place 99 room 99;act 99;", "place 0 room 1;act 0;", "place 00000000000000000099;act 0000000000000000000000;",
            SMALL + "in 0 1 5;out 0 0 5;bar 0 1 99;lasts 0 20;lasts 0 0;",
            SMALL + "if 0 1=1;if 0 9999>0;if 0 marks 1<marks 0;",
            SMALL + "if 0 not not not not not not 1=1;", SMALL + "if 0 [[[[[[1=1]]]]]];",
            SMALL + "if 0 ((((((1))))))=1;", SMALL + "if 0 not[not[not(1)=1]];",
            SMALL + "if0not1=1and[2<1or3>2]or marks0+(1-marks1)=5;",
            SMALL + "if 0 not 1=1 and not 1=1 and not 1=1 and not 1=1 and not 1=1 and not 1=1 and not 1=1;",
            SMALL + "if 0 (1)+(1)+(1)+(1)+(1)+(1)+(1)=7 or (1)=(1);",
            SMALL + "if 0 not [[[[[ 1 = 1 ] ] ] ] ] and [[[[[[ 1 = 1 ] ] ] ] ] ] ;",
        };
        for (String text : good) {
            TokenHall h = new TokenHall();
            int places = Checks.tell(h, text);
            Checks.same("places of '" + text + "'", places, h.told(0));
            Checks.same("fault of '" + text + "'", h.fault(), -1);
        }
        Checks.same("60 clauses", Checks.tell(new TokenHall(), SMALL + "in0 0 1;".repeat(57)), 2);
    }

    private static void faultsOfWhatCannotStand() {
        Checks.fault("places 1;", 1, 0);
        Checks.fault("  Place 1;", 1, 2);
        Checks.fault("placez 1;", 1, 0);
        Checks.fault("zplace 1;", 1, 0);
        Checks.fault("place{1;", 1, 5);
        Checks.fault("place`1;", 1, 5);
        Checks.fault("place/1;", 1, 5);
        Checks.fault("place:1;", 1, 5);
        Checks.fault("5", 1, 0);
        Checks.fault(";", 1, 0);
        Checks.fault("place ;", 1, 6);
        Checks.fault("place 1", 1, 7);
        Checks.fault("place 1   ", 1, 10);
        Checks.fault("place", 1, 5);
        Checks.fault("place 1 rooms 5;", 1, 8);
        Checks.fault("place 1 room;", 1, 12);
        Checks.fault("place 1 1;", 1, 8);
        Checks.fault("place -1;", 1, 6);
        Checks.fault("place 1\t;", 1, 7);
        Checks.fault(SMALL + "in 0 0;", 1, 35);
        Checks.fault(SMALL + "in 0 0 1 1;", 1, 38);
        Checks.fault(SMALL + "lasts 0;", 1, 36);
        Checks.fault(SMALL + "room 1;", 1, 29);
        Checks.fault(SMALL + "if 0;", 1, 33);
        Checks.fault(SMALL + "if 0 1;", 1, 35);
        Checks.fault(SMALL + "if 0 1=1=1;", 1, 37);
        Checks.fault(SMALL + "if 0 (1=1);", 1, 36);
        Checks.fault(SMALL + "if 0 [1]=1;", 1, 36);
        Checks.fault(SMALL + "if 0 1=not 1;", 1, 36);
        Checks.fault(SMALL + "if 0 1=[1];", 1, 36);
        Checks.fault(SMALL + "if 0 1=1]", 1, 37);
        Checks.fault(SMALL + "if 0 [1=1", 1, 38);
        Checks.fault(SMALL + "if 0 [1=1;", 1, 38);
        Checks.fault(SMALL + "if 0 (1+)=1;", 1, 37);
        Checks.fault(SMALL + "if 0 +1=1;", 1, 34);
        Checks.fault(SMALL + "if 0 1=1 or;", 1, 40);
        Checks.fault(SMALL + "if 0 1=1 xor 1=1;", 1, 38);
        Checks.fault(SMALL + "if 0 1=1 nota;", 1, 38);
        Checks.fault(SMALL + "if 0 not;", 1, 37);
        Checks.fault(SMALL + "if 0 marks;", 1, 39);
        Checks.fault(SMALL + "if 0 marks (0)=0;", 1, 40);
        Checks.fault(SMALL + "if 0 1==1;", 1, 36);
    }

    private static void faultsOfNumbers() {
        Checks.fault("place  100;", 2, 7);
        Checks.fault("place 99999999999999999999999;", 2, 6);
        Checks.fault("place 4294967296;", 2, 6);
        Checks.fault("place 0 room 0;", 2, 13);
        Checks.fault("place 0 room 100;", 2, 13);
        Checks.fault("place 50 room 49;", 2, 14);
        Checks.fault("act 100;", 2, 4);
        Checks.fault("in 0 0 1;", 2, 3);
        Checks.fault("act 0;in 0 0 1;", 2, 11);
        Checks.fault(SMALL + "in 1 0 1;", 2, 32);
        Checks.fault(SMALL + "out 0 2 1;", 2, 35);
        Checks.fault(SMALL + "out 0 1 0;", 2, 37);
        Checks.fault(SMALL + "in 0 1 6;", 2, 36);
        Checks.fault(SMALL + "bar 0 1 0;", 2, 37);
        Checks.fault(SMALL + "bar 0 1 100;", 2, 37);
        Checks.fault(SMALL + "lasts 0 21;", 2, 37);
        Checks.fault(SMALL + "lasts 1 2;", 2, 35);
        Checks.fault(SMALL + "if 1 1=1;", 2, 32);
        Checks.fault(SMALL + "if 0 10000=1;", 2, 34);
        Checks.fault(SMALL + "if 0 marks 2=1;", 2, 40);
        Checks.fault(SMALL + "if 0 1=1 or 1=10000;", 2, 43);
    }

    private static void faultsOfTooMany() {
        Checks.fault("place 0;".repeat(9), 3, 64);
        Checks.fault("act 0;".repeat(8) + "  act 100;", 3, 50);
        Checks.fault(SMALL + "in0 0 1;".repeat(57) + " in0 0 1;", 3, 486);
        Checks.fault(SMALL + "in0 0 1;".repeat(57) + " place", 3, 486);
        Checks.fault(SMALL + "in0 0 1;".repeat(57) + " into 0 1;", 1, 486);
        Checks.fault(SMALL + "in0 0 1;".repeat(57) + ";", 1, 485);
        Checks.fault(SMALL + "if 0 [[[[[[[1=1", 3, 40);
        Checks.fault(SMALL + "if 0 (((((((1", 3, 40);
        Checks.fault(SMALL + "if 0 not not not not not not not 1=1;", 3, 58);
        Checks.fault(SMALL + "if 0 not[[[[[(1)=1", 3, 42);
        Checks.fault(SMALL + "if 0 [[[[[[1=1 and not 1=1", 3, 48);
        Checks.fault(SMALL + "if 0 [[[[[[1=1 and 1(", 1, 49);
    }

    private static void faultsOfNothing() {
        Checks.fault("", 4, 0);
        Checks.fault("   ", 4, 3);
        Checks.fault("place 1;", 4, 8);
        Checks.fault("act 1;  ", 4, 8);
        Checks.fault("act 1", 1, 5);
    }

    private static void faultLeavesTheNet() {
        TokenHall h = Checks.hall("place 2;act 1;act 3;in 0 0 1;");
        h.fire(0);
        h.row(1);
        h.goal(0, 7);
        h.image();
        Checks.same("a faulty text", Checks.tell(h, "place 5;act 9;in 0 0 1;in 9"), -8);
        Checks.same("where", h.fault(), 26);
        Checks.same("acts stay", h.told(1), 2);
        Checks.same("costs stay", h.act(0, 0), 1);
        Checks.same("marks stay", h.marks(0, 0), 1);
        Checks.same("rows stay", h.count(0), 1);
        Checks.same("images stay", h.count(1), 1);
        Checks.same("goals stay", h.goal(0, 8), 7);
        Checks.same("a good text", Checks.tell(h, "place 5;act 9;"), 1);
        Checks.same("no fault", h.fault(), -1);
        Checks.same("acts are new", h.told(1), 1);
        Checks.same("arcs are new", h.arc(0, 0, 0), 0);
        Checks.same("marks are new", h.marks(0, 0), 5);
        Checks.same("rows are gone", h.count(0), 0);
        Checks.same("images are gone", h.count(1), 0);
        Checks.same("goals are gone", h.goal(0, 8), 0);
    }

    /** Conditions as long as a text can have them, told again and again to one hall. */
    private static void manyLongTexts() {
        TokenHall h = new TokenHall();
        for (int i = 0; i < 8; i++) {
            String sum = "1" + "+1".repeat(260);
            Checks.same("a long text", Checks.tell(h, "place 0;act 0;if 0 " + sum + "=" + (261 + i % 2) + ";"), 1);
            Checks.same("its condition", h.may(0), i % 2 == 0 ? 0 : 3);
            Checks.same("no condition", Checks.tell(h, "place 0;act 0;act 1;"), 1);
            Checks.same("no condition", h.act(0, 2) + h.may(0), 0);
        }
    }

    private static void toldAndArcs() {
        TokenHall h = Checks.hall("place 1;place 2 room 7;act 5;act 99;in 0 1 2;in 0 1 3;out 0 0 5;out 1 1 4;"
                + "bar 1 0 99;bar 1 0 42;lasts 1 20;lasts 1 7;if 1 1=2;if 1 2=2;");
        Checks.same("told 0", h.told(0), 2);
        Checks.same("told 1", h.told(1), 2);
        Checks.fails("told 2", Checks.BAD, () -> h.told(2));
        Checks.fails("told -1", Checks.BAD, () -> h.told(-1));
        Checks.same("the last in counts", h.arc(0, 1, 0), 3);
        Checks.same("no in", h.arc(0, 0, 0), 0);
        Checks.same("out", h.arc(0, 0, 1), 5);
        Checks.same("out", h.arc(1, 1, 1), 4);
        Checks.same("the last bar counts", h.arc(1, 0, 2), 42);
        Checks.same("no bar", h.arc(0, 0, 2), 0);
        Checks.fails("arc act", Checks.ACT, () -> h.arc(2, 0, 0));
        Checks.fails("arc act below", Checks.ACT, () -> h.arc(-1, 9, 9));
        Checks.fails("arc place", Checks.PLACE, () -> h.arc(0, 2, 0));
        Checks.fails("arc place below", Checks.PLACE, () -> h.arc(0, -1, 9));
        Checks.fails("arc what", Checks.BAD, () -> h.arc(0, 0, 3));
        Checks.same("cost", h.act(0, 0), 5);
        Checks.same("cost", h.act(1, 0), 99);
        Checks.same("lasts", h.act(1, 1), 7);
        Checks.same("lasts not", h.act(0, 1), 0);
        Checks.same("condition", h.act(1, 2), 1);
        Checks.same("no condition", h.act(0, 2), 0);
        Checks.same("the last condition counts", h.may(1), 0);
        Checks.fails("act act", Checks.ACT, () -> h.act(2, 0));
        Checks.fails("act what", Checks.BAD, () -> h.act(0, 3));
        Checks.fails("act what below", Checks.BAD, () -> h.act(0, -1));
    }

    private static void marksAndPut() {
        TokenHall h = Checks.hall("place 1;place 2 room 7;act 5;");
        Checks.same("marks", h.marks(1, 0), 2);
        Checks.same("room", h.marks(1, 1), 7);
        Checks.same("no room told", h.marks(0, 1), 999);
        Checks.fails("marks place", Checks.PLACE, () -> h.marks(2, 0));
        Checks.fails("marks place below", Checks.PLACE, () -> h.marks(-1, 0));
        Checks.fails("marks what", Checks.BAD, () -> h.marks(0, 2));
        Checks.same("put", h.put(0, 99), 1);
        Checks.same("put again", h.put(0, 0), 99);
        Checks.same("put to the room", h.put(1, 7), 2);
        Checks.fails("put beyond the room", Checks.BAD, () -> h.put(1, 8));
        Checks.fails("put 100", Checks.BAD, () -> h.put(0, 100));
        Checks.fails("put -1", Checks.BAD, () -> h.put(0, -1));
        Checks.fails("put place", Checks.PLACE, () -> h.put(2, 0));
        Checks.same("put nothing wrong", h.marks(1, 0), 7);
    }
}
