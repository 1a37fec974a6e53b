/** Promises 10 to 14, 35, 36, 41, 42, 46, 48 to 50: acts, rows, images, at once, by lots, the least first. */
public final class ActsTest {
    private static final String LINE = "place 2;place 0 room 3;act 4;act 7;in 0 0 1;out 0 1 1;in 1 1 1;out 1 0 1;";

    public static void main(String[] args) {
        errors();
        conditions();
        rooms();
        fires();
        rows();
        atOnce();
        twos();
        lots();
        leastFirst();
        images();
        Checks.end();
    }

    private static void errors() {
        TokenHall h = Checks.hall("place 2;place 2 room 2;act 0;in 0 0 1;bar 0 1 2;if 0 marks 0>1;out 0 1 2;");
        h.put(0, 0);
        Checks.same("takes too much, first of all", h.may(0), 1);
        h.put(0, 1);
        Checks.same("a bar, then", h.may(0), 2);
        h.put(1, 1);
        Checks.same("a condition, then", h.may(0), 3);
        h.put(0, 2);
        Checks.same("no room, then", h.may(0), 4);
        h.put(1, 0);
        Checks.same("it may", h.may(0), 0);
        Checks.fails("may act", Checks.ACT, () -> h.may(1));
        Checks.fails("may act below", Checks.ACT, () -> h.may(-1));
    }

    private static void conditions() {
        String[] hold = {
            "1=1", "1<2", "2>1", "not 1=2", "1=2 or 1=1", "1=1 or 1=1 and 1=2", "not [1=1 and 1=2]",
            "marks 0+marks 1=5", "marks 0-marks 1=1", "marks 1-marks 0+2=1", "5-(2-1)=4", "5-2-1=2",
            "0-9999<0", "[1=1 or 1=1] and 2=2", "not 1=2 and not 1=3", "not not 1=1",
            "(((marks 0)))=3", "1=2 and 1=2 or 1=1", "9999+9999-9999=9999",
        };
        for (String c : hold) {
            Checks.same("'" + c + "' holds", Checks.hall("place 3;place 2;act 0;if 0 " + c + ";").may(0), 0);
            Checks.same("not '" + c + "'", Checks.hall("place 3;place 2;act 0;if 0 not[" + c + "];").may(0), 3);
        }
        Checks.same("and binds more", Checks.hall("place 0;act 0;if 0 [1=1 or 1=1] and 1=2;").may(0), 3);
        Checks.same("not binds most", Checks.hall("place 0;act 0;if 0 not 1=2 and 1=2;").may(0), 3);
        Checks.same("a condition sees marks before", Checks.hall("place 1;act 0;in 0 0 1;if 0 marks 0=1;").may(0), 0);
    }

    private static void rooms() {
        Checks.same("taken, then given", Checks.hall("place 3 room 3;act 0;in 0 0 2;out 0 0 2;").may(0), 0);
        Checks.same("one too many", Checks.hall("place 3 room 3;act 0;in 0 0 2;out 0 0 3;").may(0), 4);
        TokenHall h = Checks.hall("place 99;act 0;out 0 0 5;");
        for (int i = 0; i < 180; i++) {
            Checks.same("up to 999", h.fire(0), 1);
        }
        Checks.same("999", h.marks(0, 0), 999);
        Checks.same("no room beyond", h.fire(0), -4);
        Checks.same("put tells what was", h.put(0, 99), 999);
    }

    private static void fires() {
        TokenHall h = Checks.hall(LINE);
        Checks.same("fire", h.fire(0), 1);
        Checks.same("taken", h.marks(0, 0), 1);
        Checks.same("given", h.marks(1, 0), 1);
        Checks.same("fire again", h.fire(0), 1);
        Checks.same("fire no more", h.fire(0), -1);
        Checks.same("nothing changed", h.marks(1, 0), 2);
        Checks.fails("fire act", Checks.ACT, () -> h.fire(2));
    }

    private static void rows() {
        TokenHall h = Checks.hall(LINE);
        Checks.same("judge nothing", h.judge(), -1);
        Checks.same("row", h.row(0), 1);
        Checks.same("row", h.row(1), 2);
        Checks.same("row", h.row(0), 3);
        Checks.same("judge all right", h.judge(), -1);
        h.row(0);
        h.row(0);
        Checks.same("the fifth errs by 1", h.judge(), 41);
        Checks.same("judging changes nothing", h.marks(0, 0), 2);
        h.put(1, 3);
        Checks.same("the first errs by 4", h.judge(), 4);
        Checks.same("five", h.count(0), 5);
        Checks.same("clear", h.clear(), 5);
        Checks.same("none", h.count(0), 0);
        for (int i = 1; i <= 40; i++) {
            Checks.same("row " + i, h.row(i % 2), i);
        }
        Checks.same("row 41", h.row(0), -1);
        Checks.fails("row act when full", Checks.ACT, () -> h.row(2));
        Checks.same("a full row is judged", h.judge(), -1);
        Checks.same("clear 40", h.clear(), 40);
        Checks.fails("row act", Checks.ACT, () -> h.row(-1));
    }

    private static void atOnce() {
        TokenHall h = Checks.hall("place 3;place 1;act 0;act 0;act 0;act 0;"
                + "in 0 0 2;in 0 1 1;in 1 0 2;in 2 0 1;in 3 1 1;");
        Checks.same("the least of the greatest", h.once(), 14);
        h.put(0, 2);
        Checks.same("two", h.once(), 10);
        h.put(1, 0);
        Checks.same("one", h.once(), 2);
        h.put(0, 0);
        Checks.same("none", h.once(), 0);
        Checks.same("room is each one's own", Checks.hall("place 0 room 1;act 0;act 0;out 0 0 1;out 1 0 1;").once(), 3);
        Checks.same("each may", Checks.hall("place 1;act 0;act 0;bar 0 0 1;").once(), 2);
    }

    private static void twos() {
        TokenHall h = Checks.hall("place 1;place 0 room 1;act 0;act 0;act 0;in 0 0 1;in 1 0 1;out 2 1 1;");
        Checks.same("against", h.two(0, 1, 0), true);
        Checks.same("against", h.two(1, 0, 0), true);
        Checks.same("not against", h.two(0, 2, 0), false);
        Checks.same("alike", h.two(0, 2, 1), true);
        Checks.same("not alike", h.two(0, 1, 1), false);
        h.put(0, 0);
        Checks.same("none may", h.two(0, 1, 0), false);
        Checks.same("one may not", h.two(0, 2, 1), false);
        Checks.same("not alike when one makes the other may",
                Checks.hall("place 1;place 0;act 0;act 0;in 0 0 1;out 0 1 1;in 1 1 1;").two(0, 1, 1), false);
        Checks.same("at once, but not behind one another",
                Checks.hall("place 0 room 1;act 0;act 0;out 0 0 1;out 1 0 1;").two(0, 1, 1), false);
        Checks.fails("two act", Checks.ACT, () -> h.two(3, 0, 0));
        Checks.fails("two other", Checks.ACT, () -> h.two(0, 3, 0));
        Checks.fails("two no acts that are one", Checks.ACT, () -> h.two(3, 3, 0));
        Checks.fails("two of one", Checks.BAD, () -> h.two(1, 1, 1));
        Checks.fails("two what", Checks.BAD, () -> h.two(0, 1, 2));
    }

    private static void lots() {
        TokenHall h = Checks.hall("place 50;place 0;place 0;act 0;act 0;in 0 0 1;out 0 1 1;in 1 0 1;out 1 2 1;");
        int seed = 42;
        int ones = 0;
        for (int n = 1; n <= 50; n++) {
            seed = seed * 1103515245 + 12345;
            ones += (seed >> 16 & 32767) % 2;
            Checks.same("lot " + n, h.lot(n, 42, 2), ones);
            Checks.same("lot " + n, h.lot(n, 42, 1), n - ones);
            Checks.same("lots " + n, h.lots(n, 42), n);
        }
        Checks.same("it ends", h.lots(1000, 42), 50);
        Checks.same("nothing stays changed", h.marks(0, 0), 50);
        Checks.same("a seed below 0", h.lots(3, -7), 3);
        Checks.fails("lots 0", Checks.BAD, () -> h.lots(0, 1));
        Checks.fails("lots 1001", Checks.BAD, () -> h.lots(1001, 1));
        Checks.fails("lot 0", Checks.BAD, () -> h.lot(0, 1, 0));
        Checks.fails("lot 1001", Checks.BAD, () -> h.lot(1001, 1, 0));
        Checks.fails("lot place", Checks.PLACE, () -> h.lot(5, 1, 3));
    }

    private static void leastFirst() {
        TokenHall h = Checks.hall("place 5;place 0;act 0;act 0;in 0 0 1;out 0 1 1;in 1 0 1;in 1 1 1;");
        Checks.same("it ends", h.first(0), 5);
        Checks.same("it does not come again", h.first(1), -1);
        Checks.same("it does not come again", h.first(2), -1);
        TokenHall ring = Checks.hall("place 1;place 1;place 0;act 0;act 0;act 0;"
                + "in 0 0 1;in 1 1 1;out 1 2 1;in 2 2 1;out 2 1 1;");
        Checks.same("it does not end", ring.first(0), -1);
        Checks.same("after 1", ring.first(1), 1);
        Checks.same("2 later", ring.first(2), 2);
        TokenHall wide = Checks.hall("place 0;place 0;place 0;act 0;act 0;act 0;out 0 0 1;"
                + "out 1 1 1;out 2 2 1;");
        for (int what = 0; what < 3; what++) {
            Checks.same("2,997 acts and their end", wide.first(what), what == 0 ? 2997 : -1);
        }
        wide = Checks.hall("place 0;place 0;place 0;place 0;act 0;act 0;act 0;act 0;out 0 0 1;out 1 1 1;out 2 2 1;out 3 3 1;");
        for (int what = 0; what < 3; what++) {
            Checks.same("too many", wide.first(what), -2);
        }
        wide = Checks.hall("place 0;place 0;place 0;place 0 room 2;act 0;act 0;act 0;act 0;out 0 0 1;out 1 1 1;out 2 2 1;out 3 3 1;");
        Checks.same("the last that ends", wide.first(0), 2999);
        wide = Checks.hall("place 0;place 0;place 0;place 0 room 3;act 0;act 0;act 0;act 0;out 0 0 1;out 1 1 1;out 2 2 1;out 3 3 1;");
        Checks.same("one more", wide.first(0), -2);
        Checks.fails("first what", Checks.BAD, () -> h.first(3));
        Checks.fails("first what below", Checks.BAD, () -> h.first(-1));
    }

    private static void images() {
        TokenHall h = Checks.hall(LINE);
        Checks.same("none to restore", h.restore(), -1);
        h.goal(1, 3);
        h.row(1);
        Checks.same("image", h.image(), 1);
        h.fire(0);
        h.goal(1, 4);
        h.row(0);
        Checks.same("states from here", h.states(9), 3);
        Checks.same("image", h.image(), 2);
        Checks.same("image", h.image(), 3);
        Checks.same("image of a fourth", h.image(), -1);
        Checks.same("images", h.count(1), 3);
        h.put(0, 9);
        h.clear();
        Checks.same("restore", h.restore(), 2);
        Checks.same("marks are back", h.marks(0, 0), 1);
        Checks.same("rows are back", h.count(0), 2);
        Checks.same("searches see it", h.state(9, 0, 0), 1);
        Checks.same("restore", h.restore(), 1);
        Checks.same("restore", h.restore(), 0);
        Checks.same("marks of the first", h.marks(0, 0), 2);
        Checks.same("goals of the first", h.goal(1, 0), 3);
        Checks.same("rows of the first", h.count(0), 1);
        Checks.same("judge of the first", h.judge(), 1);
        Checks.same("none is left", h.restore(), -1);
        h.feed(1, 2, 3, 4, 5);
        h.image();
        h.feed(1, 2, 3, 4, 5);
        h.restore();
        Checks.same("the tape is no matter", h.count(2), 40);
    }
}
