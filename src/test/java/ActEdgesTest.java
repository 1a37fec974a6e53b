/** The edges of acts that err and of rows (==== 2. of the document), and of promises 10 to 14. */
public final class ActEdgesTest {
    private static final int[] NO_ACTS = {-1, 2, 8, Integer.MIN_VALUE, Integer.MAX_VALUE};

    public static void main(String[] args) {
        fewerMarks();
        bars();
        conditions();
        behindIt();
        theFirstOfThese();
        elseItMay();
        byWhatItErrs();
        itIsDone();
        fortyInARow();
        allRowsGo();
        theFirstThatErrs();
        judgedFromMarksAsTheyAre();
        Checks.end();
    }

    private static void fewerMarks() {
        Checks.of("1 some PLACE has fewer MARKS than it takes from there");
        for (int takes = 1; takes <= 5; takes++) {
            TokenHall h = Checks.hall("place 0;place 0;act 0;in 0 1 " + takes + ";");
            h.put(1, takes - 1);
            Checks.same("one fewer than " + takes, h.may(0), 1);
            h.put(1, takes);
            Checks.same("just " + takes, h.may(0), 0);
            h.put(1, takes + 1);
            Checks.same("one more than " + takes, h.may(0), 0);
        }
        for (int place = 0; place < 8; place++) {
            TokenHall h = Checks.hall("place 1;".repeat(8) + "act 0;" + "in 0 0 1;in 0 1 1;in 0 2 1;in 0 3 1;in 0 4 1;"
                    + "in 0 5 1;in 0 6 1;in 0 7 1;");
            Checks.same("all are there", h.may(0), 0);
            h.put(place, 0);
            Checks.same("some place, " + place, h.may(0), 1);
        }
        Checks.same("what it gives is not there yet", Checks.hall("place 0;act 0;in 0 0 1;out 0 0 5;").may(0), 1);
    }

    private static void bars() {
        Checks.of("2 a bar");
        for (int place = 0; place < 8; place++) {
            TokenHall h = Checks.hall("place 0;".repeat(8) + "act 0;bar 0 " + place + " 2;");
            h.put(place, 1);
            Checks.same("one fewer than the bar at " + place, h.may(0), 0);
            h.put(place, 2);
            Checks.same("just the bar at " + place, h.may(0), 2);
            h.put(place, 3);
            Checks.same("one more than the bar at " + place, h.may(0), 2);
        }
        TokenHall h = Checks.hall("place 3;act 0;in 0 0 3;bar 0 0 3;");
        Checks.same("a bar counts what is there before it takes", h.may(0), 2);
        Checks.same("not what it gives", Checks.hall("place 0;act 0;out 0 0 5;bar 0 0 1;").may(0), 0);
    }

    private static void conditions() {
        Checks.of("3 its condition does not hold");
        TokenHall h = Checks.hall("place 0;act 0;out 0 0 1;if 0 marks 0<2;");
        Checks.same("it holds", h.fire(0), 1);
        Checks.same("it holds still", h.fire(0), 1);
        Checks.same("it holds no more", h.fire(0), -3);
        Checks.same("by marks before it takes", Checks.hall("place 1;act 0;in 0 0 1;if 0 marks 0=1;").may(0), 0);
        Checks.same("another act's", Checks.hall("place 0;act 0;act 0;if 0 1=2;").may(1), 0);
        TokenHall last = Checks.hall("place 0;".repeat(8) + "act 0;if 0 marks 7=9;");
        Checks.same("marks of the last place, not yet", last.may(0), 3);
        last.put(7, 9);
        Checks.same("marks of the last place", last.may(0), 0);
    }

    private static void behindIt() {
        Checks.of("4 behind it (taken, then given) some PLACE has more than it has room for");
        for (int place = 0; place < 8; place++) {
            TokenHall h = Checks.hall("place 0 room 9;".repeat(8) + "act 0;out 0 " + place + " 2;");
            h.put(place, 6);
            Checks.same("room is left at " + place, h.may(0), 0);
            h.put(place, 7);
            Checks.same("just the room at " + place, h.may(0), 0);
            h.put(place, 8);
            Checks.same("one too many at " + place, h.may(0), 4);
        }
        Checks.same("taken, then given", Checks.hall("place 9 room 9;act 0;in 0 0 5;out 0 0 5;").may(0), 0);
        Checks.same("one more is given than taken", Checks.hall("place 9 room 9;act 0;in 0 0 4;out 0 0 5;").may(0), 4);
        Checks.same("a full place aside", Checks.hall("place 9 room 9;place 1;act 0;in 0 1 1;").may(0), 0);
        Checks.same("out of a full place", Checks.hall("place 9 room 9;act 0;in 0 0 1;").may(0), 0);
    }

    /** An act with all four errors, which are put right one by one. */
    private static void theFirstOfThese() {
        Checks.of("An ACT ERRS, by the first of these");
        String all = "place 0;place 1;place 0;place 1 room 1;act 0;in 0 0 1;bar 0 1 1;if 0 marks 2=1;out 0 3 1;";
        for (int right = 0; right < 16; right++) {
            TokenHall h = Checks.hall(all);
            h.put(0, right & 1);
            h.put(1, 1 - (right >> 1 & 1));
            h.put(2, right >> 2 & 1);
            h.put(3, 1 - (right >> 3 & 1));
            int due = right == 15 ? 0 : 1 + Integer.numberOfTrailingZeros(~right);
            Checks.same("may with " + right + " put right", h.may(0), due);
            Checks.same("fire with " + right + " put right", h.fire(0), due == 0 ? 1 : -due);
        }
    }

    private static void elseItMay() {
        Checks.of("Else it MAY be done: it takes, and gives");
        TokenHall h = Checks.hall("place 5;place 0;place 7;act 0;in 0 0 5;out 0 0 2;out 0 1 5;");
        Checks.same("done", h.fire(0), 1);
        Checks.same("taken and given", h.marks(0, 0), 2);
        Checks.same("given", h.marks(1, 0), 5);
        Checks.same("neither", h.marks(2, 0), 7);
        Checks.same("an act without arcs", Checks.hall("place 0;act 0;").fire(0), 1);
    }

    private static void byWhatItErrs() {
        Checks.of("By what an ACT ERRS; 0: it MAY be done.");
        TokenHall h = Checks.busy();
        String before = Checks.look(h);
        Checks.same("the first act", h.may(0), 0);
        Checks.same("the last act", h.may(1), 0);
        Checks.stays("may", h, before);
        for (int act : NO_ACTS) {
            Checks.refused("may " + act, Checks.ACT, x -> x.may(act));
        }
    }

    private static void itIsDone() {
        Checks.of("It is done: 1; or by what it ERRS, less than 0.");
        TokenHall h = Checks.busy();
        Checks.same("done", h.fire(0), 1);
        Checks.same("from", h.marks(0, 0), 0);
        Checks.same("to", h.marks(1, 0), 2);
        String before = Checks.look(h);
        Checks.same("nothing to take", h.fire(0), -1);
        Checks.stays("an act that errs", h, before);
        TokenHall full = Checks.busy();
        full.put(1, 3);
        before = Checks.look(full);
        Checks.same("no room", full.fire(0), -4);
        Checks.stays("an act without room", full, before);
        for (int act : NO_ACTS) {
            Checks.refused("fire " + act, Checks.ACT, x -> x.fire(act));
        }
    }

    private static void fortyInARow() {
        Checks.of("A ROW: how many there are; -1: there are 40.");
        TokenHall h = Checks.hall("place 0;act 0;act 0;in 1 0 1;");
        for (int i = 1; i <= 39; i++) {
            Checks.same("row " + i, h.row(0), i);
            Checks.same("count " + i, h.count(0), i);
        }
        Checks.same("the 40th errs", h.row(1), 40);
        Checks.same("judged, the 40th", h.judge(), 391);
        Checks.same("a 41st", h.row(0), -1);
        Checks.same("a 42nd", h.row(1), -1);
        Checks.same("still 40", h.count(0), 40);
        Checks.same("still the 40th", h.judge(), 391);
        Checks.fails("no such act, and 40", Checks.ACT, () -> h.row(2));
        Checks.same("40 go", h.clear(), 40);
        Checks.same("the first again", h.row(0), 1);
        Checks.same("judged anew", h.judge(), -1);
        for (int act : NO_ACTS) {
            Checks.refused("row " + act, Checks.ACT, x -> x.row(act));
        }
    }

    private static void allRowsGo() {
        Checks.of("All ROWS go: how many.");
        TokenHall h = Checks.hall("place 0;act 0;in 0 0 1;");
        Checks.same("none", h.clear(), 0);
        h.row(0);
        Checks.same("one", h.clear(), 1);
        Checks.same("none is left", h.count(0), 0);
        Checks.same("none is judged", h.judge(), -1);
        Checks.same("none again", h.clear(), 0);
    }

    private static void theFirstThatErrs() {
        Checks.of("the first that ERRS: 10 times its number, and by what; NONE");
        String all = "place 0;place 1;place 1 room 1;act 0;act 0;act 0;act 0;act 0;in 1 0 1;bar 2 1 1;if 3 1=2;out 4 2 1;";
        for (int at = 0; at < 40; at += 13) {
            for (int error = 1; error <= 4; error++) {
                TokenHall h = Checks.hall(all);
                for (int i = 0; i < at; i++) {
                    h.row(0);
                }
                Checks.same("none errs", h.judge(), -1);
                h.row(error);
                Checks.same("number " + at + " errs by " + error, h.judge(), 10 * at + error);
                h.row(error % 4 + 1);
                Checks.same("the first of two", h.judge(), 10 * at + error);
            }
        }
        Checks.same("no row", Checks.hall(all).judge(), -1);
    }

    private static void judgedFromMarksAsTheyAre() {
        Checks.of("JUDGED from MARKS as they are");
        TokenHall h = Checks.hall("place 1;place 0;act 0;act 0;in 0 0 1;out 0 1 1;in 1 1 1;");
        h.row(0);
        h.row(1);
        Checks.same("the second lives from the first", h.judge(), -1);
        String before = Checks.look(h);
        h.judge();
        Checks.stays("judge", h, before);
        h.fire(0);
        Checks.same("the first is done already", h.judge(), 1);
        h.put(0, 1);
        Checks.same("and may be done again", h.judge(), -1);
        h.row(1);
        Checks.same("twice, as there are two", h.judge(), -1);
        h.row(1);
        Checks.same("a third time", h.judge(), 31);
    }
}
