import java.util.ArrayList;
import java.util.List;
import java.util.Random;
import java.util.regex.Matcher;
import java.util.regex.Pattern;

/** Promises 3 and 4 on texts spoiled by chance, judged by a second reader that works on a list of tokens. */
public final class FaultTest {
    private static final int TEXTS = 20000;
    private static final String[] BITS = {
        "place", "act", "in", "out", "bar", "lasts", "if", "room", "or", "and", "not", "marks", "[", "]", "(", ")",
        "<", ">", "=", "+", "-", ";", " ", "  ", "0", "1", "7", "9", "100", "9999", "10000", "x", "P", "\t", "not not ",
        "[[", "((", "place 0;", "act 0;", "in 0 0 1;", "if 0 [1=1];",
    };

    private static final class Stop extends RuntimeException {
        private static final long serialVersionUID = 1;
        final int fault;
        final int at;

        Stop(int fault, int at) {
            this.fault = fault;
            this.at = at;
        }
    }

    private final List<String> tokens = new ArrayList<>();
    private final List<Integer> starts = new ArrayList<>();
    private int next;
    private int places;
    private int acts;
    private int open;

    private FaultTest(String text) {
        Matcher m = Pattern.compile("[0-9]+|[a-z]+|[^ ]", Pattern.DOTALL).matcher(text);
        while (m.find()) {
            tokens.add(m.group());
            starts.add(m.start());
        }
        tokens.add("");
        starts.add(text.length());
    }

    public static void main(String[] args) {
        Random chance = new Random(7);
        TokenHall hall = new TokenHall();
        int good = 0;
        for (int i = 0; i < TEXTS && Checks.fine(); i++) {
            String text = spoiled(chance, new Model(chance, 8, 8, 5).text());
            int[] due = read(text);
            good += due[0] > 0 ? 1 : 0;
            Checks.same("net of '" + text + "'", Checks.tell(hall, text), due[0]);
            Checks.same("fault of '" + text + "'", hall.fault(), due[1]);
        }
        Checks.same("some texts are good, some not", good > TEXTS / 20 && good < TEXTS * 19 / 20, true);
        Checks.end();
    }

    /** What net() and fault() are to answer for a text. */
    static int[] read(String text) {
        FaultTest reader = new FaultTest(text);
        try {
            reader.net();
        } catch (Stop stop) {
            return new int[] {stop.fault - 10, stop.at};
        }
        return new int[] {reader.places, -1};
    }

    static String spoiled(Random chance, String text) {
        StringBuilder s = new StringBuilder(text);
        for (int n = chance.nextInt(4); n > 0; n--) {
            int at = chance.nextInt(s.length() + 1);
            int to = Math.min(s.length(), at + chance.nextInt(4));
            s.replace(at, chance.nextBoolean() ? at : to, BITS[chance.nextInt(BITS.length)]);
        }
        if (chance.nextInt(10) == 0) {
            s.setLength(chance.nextInt(s.length() + 1));
        }
        if (chance.nextInt(20) == 0) {
            s.insert(0, "act 5;place 1;" + "in0 0 1;".repeat(chance.nextInt(60)));
        }
        if (s.length() > 600) {
            s.setLength(600);
        }
        return s.toString();
    }

    private String now() {
        return tokens.get(next);
    }

    private Stop stop(int fault) {
        return new Stop(fault, starts.get(next));
    }

    private void expect(String sign) {
        if (!now().equals(sign)) {
            throw stop(1);
        }
        next++;
    }

    private int number(int least, int most) {
        if (!now().matches("[0-9]+")) {
            throw stop(1);
        }
        String digits = now().replaceFirst("^0+(?=.)", "");
        if (digits.length() > 6 || Integer.parseInt(digits) < least || Integer.parseInt(digits) > most) {
            throw stop(2);
        }
        next++;
        return Integer.parseInt(digits);
    }

    private void net() {
        int clauses = 0;
        while (!now().isEmpty()) {
            if (!List.of("place", "act", "in", "out", "bar", "lasts", "if").contains(now())) {
                throw stop(1);
            }
            if (++clauses > 60) {
                throw stop(3);
            }
            clause(tokens.get(next));
            expect(";");
        }
        if (places == 0 || acts == 0) {
            throw stop(4);
        }
    }

    private void clause(String word) {
        if (word.equals("place") && places == 8 || word.equals("act") && acts == 8) {
            throw stop(3);
        }
        next++;
        if (word.equals("place")) {
            int marks = number(0, 99);
            if (now().equals("room")) {
                next++;
                number(Math.max(marks, 1), 99);
            }
            places++;
        } else if (word.equals("act")) {
            number(0, 99);
            acts++;
        } else {
            number(0, acts - 1);
            if (word.equals("if")) {
                either();
            } else if (word.equals("lasts")) {
                number(0, 20);
            } else {
                number(0, places - 1);
                number(1, word.equals("bar") ? 99 : 5);
            }
        }
    }

    private void enter() {
        if (open == 6) {
            throw stop(3);
        }
        open++;
        next++;
    }

    private void either() {
        both();
        while (now().equals("or")) {
            next++;
            both();
        }
    }

    private void both() {
        single();
        while (now().equals("and")) {
            next++;
            single();
        }
    }

    private void single() {
        if (now().equals("not")) {
            enter();
            single();
            open--;
        } else if (now().equals("[")) {
            enter();
            either();
            expect("]");
            open--;
        } else {
            sum();
            if (!List.of("<", ">", "=").contains(now())) {
                throw stop(1);
            }
            next++;
            sum();
        }
    }

    private void sum() {
        unit();
        while (now().equals("+") || now().equals("-")) {
            next++;
            unit();
        }
    }

    private void unit() {
        if (now().equals("(")) {
            enter();
            sum();
            expect(")");
            open--;
        } else if (now().equals("marks")) {
            next++;
            number(0, places - 1);
        } else {
            number(0, 9999);
        }
    }
}
