/** The edges of a net's text and of its faults, as the document's terms tell them, one sentence after another. */
public final class NetEdgesTest {
    private static final String PLACE = "place 0;";
    private static final String BOTH = "place 5;act 0;";
    private static final String IF = BOTH + "if 0 ";

    public static void main(String[] args) {
        bytes();
        clauses();
        places();
        marksAtFirst();
        rooms();
        noRoom();
        acts();
        costs();
        taken();
        given();
        barred();
        lasting();
        toldAhead();
        lastCounts();
        groupsOfConditions();
        numbersInConditions();
        digits();
        words();
        blanks();
        firstFromTheLeft();
        whatCannotStand();
        endsTooEarly();
        numbersThatAreNoneSuch();
        tooManyAtTheirWords();
        openAtOneTime();
        notTillItsEnd();
        noPlaceOrNoAct();
        ofOneTheLeast();
        Checks.end();
    }

    private static String blanksTo(int length, String text) {
        return text + " ".repeat(length - text.length());
    }

    private static void bytes() {
        Checks.of("A NET is a text of up to 600 bytes");
        Checks.good(blanksTo(599, BOTH), 1);
        Checks.good(blanksTo(600, BOTH), 1);
        Checks.good(blanksTo(599, BOTH + "act 3") + ";", 1);
        Checks.fault(blanksTo(600, BOTH + "act 3"), 1, 600);
        Checks.faultAt(blanksTo(599, BOTH + "act 3"), "x", 1);
        TokenHall h = new TokenHall();
        Checks.feed(h, blanksTo(600, BOTH));
        Checks.same("20 bytes more", h.feed(0x20202020, 0x20202020, 0x20202020, 0x20202020, 0x20202020), -1);
        Checks.fails("601 bytes", Checks.BAD, () -> h.net(601));
        Checks.same("600 bytes still", h.net(600), 1);
    }

    private static void clauses() {
        Checks.of("{ CLAUSE \";\" }, at most 60");
        Checks.fault("", 4, 0);
        Checks.good(BOTH + "in0 0 1;".repeat(57), 1);
        Checks.good(BOTH + "in0 0 1;".repeat(58), 1);
        Checks.good(BOTH + "in0 0 1;".repeat(58) + "  ", 1);
        Checks.faultAt(BOTH + "in0 0 1;".repeat(58), "in0 0 1;", 3);
        Checks.faultAt(BOTH + "in0 0 1;".repeat(58), "in", 3);
        Checks.faultAt(BOTH + "in0 0 1;".repeat(58), "in 9", 3);
        for (String word : new String[] {"place", "act", "in", "out", "bar", "lasts", "if"}) {
            Checks.faultAt(BOTH + "in0 0 1;".repeat(58) + " ", word + " 0", 3);
        }
    }

    private static void places() {
        Checks.of("a PLACE, numbered from 0 on, 8 at most");
        Checks.good("place 0;act 0;", 1);
        Checks.good(PLACE.repeat(7) + "act 0;", 7);
        Checks.good(PLACE.repeat(8) + "act 0;", 8);
        Checks.faultAt(PLACE.repeat(8), PLACE + "act 0;", 3);
        Checks.faultAt(PLACE.repeat(8) + "act 0;", "place 100", 3);
        TokenHall h = Checks.hall("place 10;place 11;place 12;place 13;act 0;place 14;place 15;place 16;place 17;");
        for (int p = 0; p < 8; p++) {
            Checks.same("marks of place " + p, h.marks(p, 0), 10 + p);
        }
    }

    private static void marksAtFirst() {
        Checks.of("N marks at first, 0 to 99");
        for (int n : new int[] {0, 1, 98, 99}) {
            Checks.same(n + " marks", Checks.hall("act 0;place " + n + ";").marks(0, 0), n);
        }
        Checks.faultAt("act 0;place ", "100;", 2);
        Checks.faultAt("act 0;place ", "100 room 99;", 2);
        Checks.faultAt("act 0;place ", "-1;", 1);
    }

    private static void rooms() {
        Checks.of("with room for M, 1 to 99");
        for (int m : new int[] {1, 2, 98, 99}) {
            Checks.same("room " + m, Checks.hall("act 0;place 0 room " + m + ";").marks(0, 1), m);
        }
        Checks.faultAt("act 0;place 0 room ", "0;", 2);
        Checks.faultAt("act 0;place 0 room ", "100;", 2);
        Checks.of("and no less than N");
        for (int n : new int[] {2, 50, 99}) {
            Checks.same("room as told", Checks.hall("act 0;place " + n + " room " + n + ";").marks(0, 1), n);
            Checks.faultAt("act 0;place " + n + " room ", n - 1 + ";", 2);
        }
        Checks.good("act 0;place 1 room 1;", 1);
        Checks.faultAt("act 0;place 1 room ", "0;", 2);
        Checks.good("act 0;place 49 room 50;", 1);
    }

    private static void noRoom() {
        Checks.of("999 without");
        Checks.same("no room told", Checks.hall(BOTH).marks(0, 1), 999);
        TokenHall h = Checks.hall("place 0 room 1;place 0;act 0;");
        Checks.same("room told", h.marks(0, 1), 1);
        Checks.same("none told behind one", h.marks(1, 1), 999);
        TokenHall full = Checks.hall("place 99;act 0;act 0;out 0 0 5;out 1 0 1;");
        for (int i = 0; i < 179; i++) {
            full.fire(0);
        }
        for (int i = 0; i < 4; i++) {
            full.fire(1);
        }
        Checks.same("998 marks", full.marks(0, 0), 998);
        Checks.same("one more", full.fire(1), 1);
        Checks.same("one beyond 999", full.fire(1), -4);
        Checks.same("999 marks", full.marks(0, 0), 999);
    }

    private static void acts() {
        Checks.of("ACTS likewise, 8");
        Checks.same("1 act", Checks.hall("place 0;act 0;").told(1), 1);
        Checks.same("7 acts", Checks.hall(PLACE + "act 0;".repeat(7)).told(1), 7);
        Checks.same("8 acts", Checks.hall(PLACE + "act 0;".repeat(8)).told(1), 8);
        Checks.faultAt(PLACE + "act 0;".repeat(8), "act 0;", 3);
        Checks.faultAt("act 0;".repeat(8), "act 100", 3);
        TokenHall h = Checks.hall("act 10;act 11;act 12;act 13;place 0;act 14;act 15;act 16;act 17;");
        for (int t = 0; t < 8; t++) {
            Checks.same("cost of act " + t, h.act(t, 0), 10 + t);
        }
    }

    private static void costs() {
        Checks.of("COST 0 to 99");
        for (int n : new int[] {0, 1, 98, 99}) {
            Checks.same("cost " + n, Checks.hall("place 0;act " + n + ";").act(0, 0), n);
        }
        Checks.faultAt("place 0;act ", "100;", 2);
        Checks.faultAt("place 0;act ", ";", 1);
    }

    /** An arc of each number from the least to the greatest, and the faults just beside these. */
    private static void arcs(String word, int what, int greatest) {
        for (int n : new int[] {1, 2, greatest - 1, greatest}) {
            Checks.same(word + " " + n, Checks.hall(BOTH + word + " 0 0 " + n + ";").arc(0, 0, what), n);
        }
        Checks.faultAt(BOTH + word + " 0 0 ", "0;", 2);
        Checks.faultAt(BOTH + word + " 0 0 ", greatest + 1 + ";", 2);
        Checks.faultAt(BOTH + word + " 0 0", ";", 1);
        for (int other = 0; other < 3; other++) {
            if (other != what) {
                Checks.same("not " + other, Checks.hall(BOTH + word + " 0 0 1;").arc(0, 0, other), 0);
            }
        }
    }

    private static void taken() {
        Checks.of("\"in\" T P N (ACT T takes N marks, 1 to 5, from PLACE P)");
        arcs("in", 0, 5);
        TokenHall h = Checks.hall("place 5;place 5;act 0;in 0 1 5;");
        h.fire(0);
        Checks.same("from that place", h.marks(1, 0), 0);
        Checks.same("from that place alone", h.marks(0, 0), 5);
    }

    private static void given() {
        Checks.of("\"out\" T P N (gives them to it)");
        arcs("out", 1, 5);
        TokenHall h = Checks.hall("place 5;place 5;act 0;out 0 1 5;");
        h.fire(0);
        Checks.same("to that place", h.marks(1, 0), 10);
        Checks.same("to that place alone", h.marks(0, 0), 5);
    }

    private static void barred() {
        Checks.of("\"bar\" T P N (may not, if N or more are there, 1 to 99)");
        arcs("bar", 2, 99);
        for (int n : new int[] {1, 2, 98, 99}) {
            TokenHall h = Checks.hall("place 0;act 0;act 0;out 1 0 1;bar 0 0 " + n + ";");
            h.put(0, n - 1);
            Checks.same("one fewer than the bar", h.may(0), 0);
            h.put(0, n);
            Checks.same("as many as the bar", h.may(0), 2);
            h.fire(1);
            Checks.same("one more than the bar", h.may(0), 2);
        }
    }

    private static void lasting() {
        Checks.of("\"lasts\" T D (0 to 20; 0 without)");
        for (int d : new int[] {0, 1, 19, 20}) {
            Checks.same("lasts " + d, Checks.hall(BOTH + "lasts 0 " + d + ";").act(0, 1), d);
        }
        Checks.faultAt(BOTH + "lasts 0 ", "21;", 2);
        Checks.faultAt(BOTH + "lasts 0", ";", 1);
        Checks.same("without", Checks.hall(BOTH).act(0, 1), 0);
        TokenHall h = Checks.hall(BOTH + "lasts 0 20;");
        Checks.tell(h, BOTH);
        Checks.same("without, where an older net had it", h.act(0, 1), 0);
    }

    private static void toldAhead() {
        Checks.of("T, P: told ahead");
        String[] ofActs = {"in ", "out ", "bar ", "lasts ", "if "};
        for (String word : ofActs) {
            String rest = word.equals("lasts ") ? " 1;" : word.equals("if ") ? " 1=1;" : " 0 1;";
            Checks.good("place 0;act 0;act 0;" + word + "1" + rest, 1);
            Checks.faultAt("place 0;act 0;act 0;" + word, "2" + rest, 2);
            Checks.faultAt("place 0;act 0;" + word, "1" + rest + "act 0;", 2);
            Checks.faultAt("place 0;" + word, "0" + rest + "act 0;", 2);
        }
        for (String word : new String[] {"in 0 ", "out 0 ", "bar 0 ", "if 0 marks "}) {
            String rest = word.startsWith("if") ? "=0;" : " 1;";
            Checks.good("place 0;place 0;act 0;" + word + "1" + rest, 2);
            Checks.faultAt("place 0;place 0;act 0;" + word, "2" + rest, 2);
            Checks.faultAt("place 0;act 0;" + word, "1" + rest + "place 0;", 2);
            Checks.faultAt("act 0;" + word, "0" + rest + "place 0;", 2);
        }
        Checks.good(PLACE.repeat(8) + "act 0;".repeat(8) + "in 7 7 1;if 7 marks 7=0;lasts 7 1;", 8);
        Checks.faultAt(PLACE.repeat(8) + "act 0;".repeat(8) + "in 7 ", "8 1;", 2);
        Checks.faultAt(PLACE.repeat(8) + "act 0;".repeat(8) + "in ", "8 7 1;", 2);
        Checks.faultAt(BOTH + "in ", "4294967296 0 1;", 2);
    }

    private static void lastCounts() {
        Checks.of("Of in, out, bar of one ACT and PLACE, lasts, if of one ACT the last counts");
        TokenHall h = Checks.hall("place 0;place 0;act 0;act 0;in 0 0 5;out 0 0 4;bar 0 0 9;in 0 0 2;out 0 0 1;bar 0 0 7;"
                + "in 0 1 3;in 1 0 4;lasts 0 9;lasts 1 8;lasts 0 3;if 1 2=1;if 0 1=1;if 1 1=1;");
        int[] due = {2, 1, 7};
        for (int what = 0; what < 3; what++) {
            Checks.same("the last of one act and place", h.arc(0, 0, what), due[what]);
        }
        Checks.same("another place stays", h.arc(0, 1, 0), 3);
        Checks.same("another act stays", h.arc(1, 0, 0), 4);
        Checks.same("the last lasts", h.act(0, 1), 3);
        Checks.same("another act's lasts", h.act(1, 1), 8);
        h.put(0, 4);
        Checks.same("the last condition", h.may(1), 0);
        Checks.same("lasts 0 behind another", Checks.hall(BOTH + "lasts 0 9;lasts 0 0;").act(0, 1), 0);
        Checks.same("the last condition, not the first", Checks.hall(IF + "1=1;if 0 1=2;").may(0), 3);
    }

    private static int judged(String condition) {
        return Checks.hall(IF + condition + ";").may(0);
    }

    private static void relation(char sign, int fewer, int alike, int more) {
        Checks.same("4" + sign + "5", judged("4" + sign + "5"), fewer);
        Checks.same("5" + sign + "5", judged("5" + sign + "5"), alike);
        Checks.same("6" + sign + "5", judged("6" + sign + "5"), more);
    }

    private static void groupsOfConditions() {
        Checks.of("C: D { \"or\" D }. D: B { \"and\" B }");
        Checks.same("one alone", judged("1=1"), 0);
        Checks.same("the last of three", judged("1=2 or 1=2 or 1=1"), 0);
        Checks.same("none of three", judged("1=2 or 1=2 or 1=2"), 3);
        Checks.same("all but the last of three", judged("1=1 and 1=1 and 1=2"), 3);
        Checks.same("and within or, at the right", judged("1=1 or 1=1 and 1=2"), 0);
        Checks.same("and within or, at the left", judged("1=2 and 1=1 or 1=1"), 0);
        Checks.faultAt(IF + "1=1 or ", "or 1=1;", 1);
        Checks.faultAt(IF + "1=1 and ", ";", 1);
        Checks.faultAt(IF, "and 1=1;", 1);
        Checks.of("B: \"not\" B, \"[\" C \"]\", or E R E; R: <, > or =");
        Checks.same("not of what holds", judged("not 1=1"), 3);
        Checks.same("not of what does not hold", judged("not 1=2"), 0);
        Checks.same("not of more", judged("not 2>1"), 3);
        Checks.same("not of less", judged("not 1<2"), 3);
        Checks.same("not twice", judged("not not 1=1") + judged("not not not 1=2"), 0);
        Checks.same("not of one B alone", judged("not 1=2 and 1=2"), 3);
        Checks.same("of all kinds together", judged("2>1 and 1<2 and 1=1 and not 1=2"), 0);
        Checks.same("of all kinds, none", judged("1>2 or 2<1 or 1=2 or not 1=1"), 3);
        Checks.same("not of a bracket", judged("not [1=2 and 1=2]"), 0);
        relation('<', 0, 3, 3);
        relation('=', 3, 0, 3);
        relation('>', 3, 3, 0);
        Checks.faultAt(IF + "[", "];", 1);
        Checks.faultAt(IF + "1", "!1;", 1);
        Checks.faultAt(IF + "1<", "=1;", 1);
        Checks.of("E: U { + or - U }. U: N (0 to 9,999), \"marks\" P, or \"(\" E \")\"");
        Checks.same("a sum", judged("2+3=5"), 0);
        Checks.same("a sum, one less", judged("2+3=4"), 3);
        Checks.same("a sum, one more", judged("2+3=6"), 3);
        Checks.same("a sum of marks", judged("marks 0+marks 0=10"), 0);
        Checks.same("a difference", judged("7-4=3"), 0);
        Checks.same("a difference, one more", judged("7-4=4"), 3);
        Checks.same("both sides", judged("1+2<5-1"), 0);
        Checks.same("both sides, not less", judged("1+3<5-1"), 3);
        Checks.same("from left to right", judged("9-5-3=1"), 0);
        Checks.same("from left to right alone", judged("9-5-3=7"), 3);
        Checks.same("below 0", judged("0-9999<0") + judged("1-2+1=0"), 0);
        Checks.same("a bracket", judged("9-(5-3)=7") + judged("(marks 0)=5"), 0);
        Checks.faultAt(IF + "1+", "+1=1;", 1);
        Checks.faultAt(IF + "(", ")=1;", 1);
        Checks.faultAt(IF, "-1=1;", 1);
    }

    private static void numbersInConditions() {
        Checks.of("N (0 to 9,999)");
        Checks.same("0", judged("0<1"), 0);
        Checks.same("9,999", judged("9999>9998"), 0);
        Checks.faultAt(IF, "10000=1;", 2);
        Checks.faultAt(IF + "1=(", "10000);", 2);
        StringBuilder most = new StringBuilder("9999");
        for (int i = 0; i < 100; i++) {
            most.append("+9999");
        }
        Checks.same("a great sum", judged(most + "-9999>9999"), 0);
    }

    private static void digits() {
        Checks.of("Numbers: digits, as many as stand there");
        Checks.same("many 0s ahead", Checks.hall("act 0;place " + "0".repeat(500) + "42;").marks(0, 0), 42);
        Checks.same("0s alone", Checks.hall("act 0;place 000;").marks(0, 0), 0);
        Checks.faultAt("act 0;place ", "4294967296;", 2);
        Checks.faultAt("act 0;place ", "4294967301;", 2);
        Checks.faultAt("act 0;place ", "18446744073709551621;", 2);
        Checks.faultAt("act 0;place ", "9".repeat(500) + ";", 2);
        Checks.faultAt("act 0;place ", "1" + "0".repeat(500) + ";", 2);
        Checks.faultAt("act 0;place 1 ", "2;", 1);
        Checks.faultAt("act 0;place 1", "/;", 1);
        Checks.faultAt("act 0;place 1", ":;", 1);
        Checks.good("act0;place1room2;in0 0 1;", 1);
        Checks.faultAt("act 0;place 0;in 00 ", "1;", 2);
    }

    private static void words() {
        Checks.of("WORDS: small letters, as many as stand there");
        String[] unknown = {
            "plac", "places", "placeact", "Place", "PLACE", "a", "z", "ac", "acts", "i", "inn", "ins", "ba", "bars",
            "o", "ou", "outs", "last", "lastss", "iff", "room", "marks", "not", "blace", "placd", "plaze", "ect", "acd",
            "an", "im", "aut", "ouu", "car", "baz", "masts", "lastt", "of", "id", "actz", "zact", "aact", "barz",
        };
        for (String word : unknown) {
            Checks.faultAt(BOTH, word + " 0 0 1;", 1);
        }
        Checks.faultAt("act 0;place 0 ", "rooms 5;", 1);
        Checks.faultAt("act 0;place 0 ", "roo 5;", 1);
        Checks.faultAt("act 0;place 0 ", "boom 5;", 1);
        Checks.faultAt("act 0;place 0 ", "roon 5;", 1);
        for (String word : new String[] {"larks 0=0;", "markz 0=0;", "hot 1=1;", "nos 1=1;"}) {
            Checks.faultAt(IF, word, 1);
        }
        for (String word : new String[] {"ar 1=1;", "os 1=1;", "end 1=1;", "ant 1=1;", "andz 1=1;"}) {
            Checks.faultAt(IF + "1=1 ", word, 1);
        }
        Checks.faultAt(IF, "mark 0=0;", 1);
        Checks.faultAt(IF, "notmarks 0=0;", 1);
        Checks.faultAt(IF + "1=1 ", "orr 1=1;", 1);
        Checks.faultAt(IF + "1=1 ", "ornot 1=1;", 1);
        Checks.faultAt(BOTH + "act", "`0;", 1);
        Checks.faultAt(BOTH + "act", "{0;", 1);
        Checks.faultAt(BOTH + "act", "A0;", 1);
        Checks.good(IF + "not1=1or marks0=0and not[1=1];", 1);
    }

    private static void blanks() {
        Checks.of("blanks (32) may stand ahead of all these, and at the end");
        Checks.good("   place   5   room   6   ;   act   0   ;   in   0   0   1   ;   "
                + "if   0   not   [   (   1   +   marks   0   )   <   5   ]   and   1   =   1   ;   ", 1);
        Checks.good("place5room6;act0;in0 0 1;if0not[(1+marks0)<5]and1=1;", 1);
        for (char other : new char[] {0, 9, 10, 13, 31, 33, 127, 128, 160, 255}) {
            Checks.faultAt("place", other + "5;act 0;", 1);
            Checks.faultAt("place 5", other + ";act 0;", 1);
            Checks.faultAt(BOTH, "" + other, 1);
        }
    }

    private static void firstFromTheLeft() {
        Checks.of("FAULTS, the first from the left, at its first byte");
        Checks.faultAt("place ", "100;acts;", 2);
        Checks.faultAt(BOTH, "acts 100;", 1);
        Checks.faultAt(BOTH + "in 0 ", "1 9;", 2);
        Checks.faultAt(BOTH + "in ", "1 1 9;", 2);
        Checks.faultAt(BOTH + "in 0 0 ", "9 x;", 2);
        Checks.faultAt(BOTH + "in 0   ", "x 9;", 1);
        Checks.faultAt("place 1 ", "xyz;", 1);
    }

    private static void whatCannotStand() {
        Checks.of("1 what can't stand there");
        Checks.faultAt("", ";", 1);
        Checks.faultAt(BOTH, ";", 1);
        Checks.faultAt(BOTH, "5;", 1);
        Checks.faultAt("place 5", ",act 0;", 1);
        Checks.faultAt("place 5 ", "act 0;", 1);
        Checks.faultAt("place ", "five;", 1);
        Checks.faultAt(BOTH + "in 0 0 1", ".5;", 1);
        Checks.faultAt(IF + "1=1", "];", 1);
        Checks.faultAt(IF + "1", ")=1;", 1);
        Checks.faultAt(IF + "[1=1", ");", 1);
        Checks.faultAt(IF + "(1", "]=1;", 1);
        Checks.faultAt(IF + "(1", "=1);", 1);
        Checks.faultAt(IF + "[1", "]=1;", 1);
        Checks.faultAt(IF + "1=", "not 1=1;", 1);
        Checks.faultAt(IF + "1+", "[1=1];", 1);
        Checks.faultAt(IF + "marks ", "(0)=0;", 1);
        Checks.faultAt(IF + "1=1", "=1;", 1);
        Checks.faultAt(BOTH + "lasts 0 1 ", "2;", 1);
    }

    private static void endsTooEarly() {
        Checks.of("(at the length, if the text ends too early)");
        String[] early = {
            "place", "place 5", "place 5 room", "place 5 room 6", "act", "act 0", BOTH + "in", BOTH + "in 0", BOTH + "in 0 0",
            BOTH + "in 0 0 1", BOTH + "lasts", BOTH + "lasts 0", BOTH + "lasts 0 1", BOTH + "if", BOTH + "if 0", IF + "not",
            IF + "[", IF + "(", IF + "1", IF + "marks", IF + "marks 0", IF + "1+", IF + "1=", IF + "1=1", IF + "1=1 or",
            IF + "1=1 and", IF + "[1=1", IF + "(1", IF + "(1)", IF + "[1=1]",
        };
        for (String text : early) {
            Checks.faultAt(text, "", 1);
            Checks.faultAt(text + " ", "", 1);
            Checks.faultAt(text + "    ", "", 1);
        }
        Checks.faultAt("", "plac", 1);
        TokenHall h = new TokenHall();
        Checks.feed(h, "place 5;act 0;");
        Checks.same("what stands behind the length is no matter", h.net(13), -9);
        Checks.same("at the length", h.fault(), 13);
    }

    private static void numbersThatAreNoneSuch() {
        Checks.of("2 a number that is none such");
        Checks.faultAt("place ", "100", 2);
        Checks.faultAt("place   ", "0100;", 2);
        Checks.faultAt("place 7 room ", "6", 2);
        Checks.faultAt("act ", "100", 2);
        Checks.faultAt(BOTH + "in ", "1", 2);
        Checks.faultAt(BOTH + "in 0 ", "1", 2);
        Checks.faultAt(BOTH + "in 0 0 ", "6", 2);
        Checks.faultAt(BOTH + "in 0 0 ", "000", 2);
        Checks.faultAt(BOTH + "bar 0 0 ", "100", 2);
        Checks.faultAt(BOTH + "lasts 0 ", "21", 2);
        Checks.faultAt(IF, "10000", 2);
        Checks.faultAt(IF + "marks ", "1", 2);
    }

    private static void tooManyAtTheirWords() {
        Checks.of("3 a CLAUSE, PLACE or ACT too many (at its word)");
        Checks.faultAt(PLACE.repeat(8) + "   ", "place 0;", 3);
        Checks.faultAt(PLACE.repeat(8), "place", 3);
        Checks.faultAt(PLACE.repeat(8), "place;", 3);
        Checks.faultAt(PLACE + "act 0;".repeat(8) + "   ", "act 0;", 3);
        Checks.faultAt("act 0;".repeat(8), "act", 3);
        Checks.faultAt(BOTH + "in0 0 1;".repeat(58) + "   ", "out 0 0 1;", 3);
        Checks.faultAt(BOTH + "in0 0 1;".repeat(57) + "in0 0", ";", 1);
    }

    private static void openAtOneTime() {
        Checks.of("or a 7th of ( [ and not that is open at one time");
        Checks.good(IF + "[[[[[[1=1]]]]]];", 1);
        Checks.good(IF + "((((((1))))))=1;", 1);
        Checks.good(IF + "not not not not not not 1=1;", 1);
        Checks.good(IF + "not [not [not (1)=1]];", 1);
        Checks.faultAt(IF + "[[[[[[", "[1=1]]]]]]];", 3);
        Checks.faultAt(IF + "((((((", "(1)))))))=1;", 3);
        Checks.faultAt(IF + "not not not not not not ", "not 1=1;", 3);
        Checks.faultAt(IF + "not [not [not (", "(1))=1]];", 3);
        Checks.faultAt(IF + "[[[[[[  ", "(1)=1]]]]]];", 3);
        Checks.faultAt(IF + "[[[[[[", "not 1=1]]]]]];", 3);
        Checks.faultAt(IF + "not not not not not not ", "[1=1];", 3);
        Checks.good(IF + "[[[[[1=(1)]]]]];", 1);
        Checks.faultAt(IF + "[[[[[1=(", "(1))]]]]];", 3);
        Checks.good(IF + "(1)+(1)+(1)+(1)+(1)+(1)+(1)+(1)=8;", 1);
        Checks.good(IF + "[1=1]and[1=1]and[1=1]and[1=1]and[1=1]and[1=1]and[1=1]and[1=1];", 1);
        Checks.good(IF + "[[[[[[1=1]]]]]]or[[[[[[1=1]]]]]];", 1);
        Checks.good(IF + "[[[[[[1=1]]]]]];if 0 [[[[[[1=1]]]]]];", 1);
        Checks.same("six are read right", judged("not [not [not [1=2]]]"), 0);
        TokenHall h = new TokenHall();
        Checks.tell(h, IF + "[[[[[[[");
        Checks.same("six behind a fault", Checks.tell(h, IF + "[[[[[[1=1]]]]]];"), 1);
    }

    private static void notTillItsEnd() {
        Checks.of("(a not till its B ends)");
        Checks.good(IF + "not 1=1 and not 1=1 and not 1=1 and not 1=1 and not 1=1 and not 1=1 and not 1=1;", 1);
        Checks.good(IF + "not 1=1 or [[[[[[1=1]]]]]];", 1);
        Checks.good(IF + "not not not not not not 1=1 and not not not not not not 1=1;", 1);
        Checks.good(IF + "not (((((1)))))=(((((1)))));", 1);
        Checks.faultAt(IF + "not (((((", "(1))))))=1;", 3);
        Checks.faultAt(IF + "not 1=(((((", "(1))))));", 3);
        Checks.good(IF + "not [[[[[1=1]]]]];", 1);
        Checks.faultAt(IF + "not [[[[[", "[1=1]]]]]];", 3);
        Checks.faultAt(IF + "not [[[[[1=1 and 1=1 or ", "(1)=1]]]]];", 3);
    }

    private static void noPlaceOrNoAct() {
        Checks.of("4 at the length: there is no PLACE, or no ACT");
        Checks.fault("", 4, 0);
        Checks.fault(" ", 4, 1);
        Checks.fault(" ".repeat(600), 4, 600);
        Checks.fault("place 5;", 4, 8);
        Checks.fault("act 0;", 4, 6);
        Checks.fault("act 0;lasts 0 1;if 0 1=1;", 4, 25);
        Checks.fault("act 0;   ", 4, 9);
        Checks.fault("place 0;".repeat(8), 4, 64);
        Checks.good("act 0;place 5;", 1);
    }

    private static void ofOneTheLeast() {
        Checks.of("of one the least");
        Checks.fault("place 5", 1, 7);
        Checks.fault("act 0", 1, 5);
        Checks.fault("act 0;act", 1, 9);
        Checks.faultAt(BOTH + "in0 0 1;".repeat(58), "inn 0 0 1;", 1);
        Checks.faultAt(BOTH + "in0 0 1;".repeat(58), ";", 1);
        Checks.faultAt(BOTH + "in0 0 1;".repeat(58) + " ", "7", 1);
    }
}
