import java.nio.charset.StandardCharsets;
import java.util.Arrays;
import java.util.function.Consumer;

/** What all tests share: telling texts to a hall, and judging answers. */
final class Checks {
    static final Class<IllegalArgumentException> BAD = IllegalArgumentException.class;
    static final Class<IndexOutOfBoundsException> PLACE = IndexOutOfBoundsException.class;
    static final Class<java.util.NoSuchElementException> ACT = java.util.NoSuchElementException.class;

    private static int wrong;
    private static int judged;
    // The document's words that the answers judged now belong to; empty outside the tests of edges.
    private static String sentence = "";

    private Checks() {
    }

    /** What is judged from here on belongs to these words of the document. */
    static void of(String words) {
        sentence = "[" + words + "] ";
    }

    static void same(String what, long got, long due) {
        judged++;
        if (got != due) {
            tellWrong(what + " answered " + got + ", due is " + due);
        }
    }

    private static void tellWrong(String what) {
        wrong++;
        System.out.println(sentence + what);
    }

    static void same(String what, boolean got, boolean due) {
        same(what, got ? 1 : 0, due ? 1 : 0);
    }

    static void same(String what, String got, String due) {
        judged++;
        if (!got.equals(due)) {
            tellWrong(what + " answered " + got + ", due is " + due);
        }
    }

    static void fails(String what, Class<? extends RuntimeException> due, Runnable call) {
        judged++;
        String got = "nothing";
        try {
            call.run();
        } catch (RuntimeException e) {
            if (e.getClass() == due) {
                return;
            }
            got = e.toString();
        }
        tellWrong(what + " threw " + got + ", due is " + due.getName());
    }

    /** A hall of two places and two acts in which nothing is as it was at first. */
    static TokenHall busy() {
        TokenHall hall = hall("place 2;place 0 room 3;act 4;act 7;in 0 0 1;out 0 1 1;in 1 1 1;out 1 0 1;");
        hall.fire(0);
        hall.goal(1, 2);
        hall.row(0);
        hall.row(1);
        hall.image();
        tell(hall, "places");
        hall.feed(1, 2, 3, 4, 5);
        return hall;
    }

    /** The call throws on a busy hall, and all that can be asked for is as it was. */
    static void refused(String what, Class<? extends RuntimeException> due, Consumer<TokenHall> call) {
        TokenHall hall = busy();
        String before = look(hall);
        fails(what, due, () -> call.accept(hall));
        stays(what, hall, before);
    }

    /** Each call throws what is due on a hall without a net. */
    static void refusedWithoutNet(String what, Class<? extends RuntimeException> due, Consumer<TokenHall> call) {
        fails(what + " without a net", due, () -> call.accept(new TokenHall()));
    }

    static void stays(String what, TokenHall hall, String before) {
        judged++;
        String now = look(hall);
        if (!now.equals(before)) {
            tellWrong(what + " changed " + before + " to " + now);
        }
    }

    /** All that calls can change, as far as asking changes nothing: net, marks, goals, rows, images, tape, fault. */
    static String look(TokenHall hall) {
        StringBuilder seen = new StringBuilder();
        int places = hall.told(0);
        int acts = hall.told(1);
        seen.append(places).append(" places ").append(acts).append(" acts;");
        for (int p = 0; p < places; p++) {
            int goal = hall.goal(p, 0);
            hall.goal(p, goal);
            seen.append(' ').append(hall.marks(p, 0)).append('/').append(hall.marks(p, 1)).append('/').append(goal);
        }
        for (int t = 0; t < acts; t++) {
            seen.append(" act ").append(hall.act(t, 0)).append('/').append(hall.act(t, 1)).append('/').append(hall.act(t, 2));
            for (int cell = 0; cell < 3 * places; cell++) {
                seen.append(' ').append(hall.arc(t, cell / 3, cell % 3));
            }
        }
        seen.append("; rows ").append(hall.count(0)).append(" judged ").append(hall.judge());
        seen.append(" images ").append(hall.count(1)).append(" tape ").append(hall.count(2));
        return seen.append(" fault ").append(hall.fault()).toString();
    }

    /** What a hall answers to most calls that change nothing, as one text. */
    static String answers(TokenHall hall) {
        StringBuilder all = new StringBuilder(look(hall)).append("; ").append(hall.looks()).append(' ');
        all.append(hall.once()).append(' ').append(hall.alike()).append(' ').append(hall.never()).append(" base");
        int places = hall.told(0);
        int acts = hall.told(1);
        for (int cell = 0; cell < hall.base(0) * places; cell++) {
            all.append(' ').append(hall.kept(cell / places, cell % places));
        }
        for (int cell = 0; cell < hall.base(1) * acts; cell++) {
            all.append(' ').append(hall.round(cell / acts, cell % acts));
        }
        all.append(" growth ").append(hall.growth()).append(" states ").append(hall.states(60));
        for (int p = 0; p < places; p++) {
            all.append(' ').append(hall.bound(p)).append('/').append(hall.most(60, p)).append('/').append(hall.clock(9, p));
            all.append('/').append(hall.lot(9, 9, p)).append('/').append(hall.state(60, 1, p));
        }
        for (int t = 0; t < acts; t++) {
            all.append(' ').append(hall.may(t)).append('/').append(hall.lives(60, t)).append('/').append(hall.often(60, t));
            all.append('/').append(hall.began(9, t)).append('/').append(hall.beat(t)).append('/').append(hall.needed(60, true, t));
        }
        for (int what = 0; what < 2; what++) {
            all.append(' ').append(hall.home(60, 2 * what)).append('/').append(hall.deepest(60, what)).append('/');
            all.append(hall.period(what)).append('/').append(hall.first(what)).append('/').append(hall.dead(60, what));
            all.append('/').append(hall.siphon(what == 1, 0)).append('/').append(hall.way(60, what == 1)).append('/');
            all.append(hall.cheapest(60, what == 1)).append('/').append(hall.rows(60, 2 + what));
        }
        return all.toString();
    }

    /** Feeds the bytes of a text, and answers how many there are; the rest of the tape is 0. */
    static int feed(TokenHall hall, String text) {
        byte[] bytes = text.getBytes(StandardCharsets.ISO_8859_1);
        byte[] whole = Arrays.copyOf(bytes, (bytes.length + 19) / 20 * 20);
        for (int i = 0; i < whole.length; i += 20) {
            hall.feed(number(whole, i), number(whole, i + 4), number(whole, i + 8),
                    number(whole, i + 12), number(whole, i + 16));
        }
        return bytes.length;
    }

    private static int number(byte[] bytes, int at) {
        return (bytes[at] & 255) << 24 | (bytes[at + 1] & 255) << 16 | (bytes[at + 2] & 255) << 8
                | bytes[at + 3] & 255;
    }

    static int tell(TokenHall hall, String text) {
        return hall.net(feed(hall, text));
    }

    static TokenHall hall(String text) {
        TokenHall hall = new TokenHall();
        int places = tell(hall, text);
        if (places < 1) {
            tellWrong("not a net: " + text + " (" + places + " at " + hall.fault() + ")");
        }
        return hall;
    }

    /** Of a text with a fault: its number and its place. */
    static void fault(String text, int number, int at) {
        TokenHall hall = new TokenHall();
        same("net of '" + text + "'", tell(hall, text), number - 10);
        same("fault of '" + text + "'", hall.fault(), at);
    }

    /** Of a text with a fault that begins with the rest. */
    static void faultAt(String ahead, String rest, int number) {
        fault(ahead + rest, number, ahead.length());
    }

    /** Of a text without a fault: how many places it has. */
    static void good(String text, int places) {
        TokenHall hall = new TokenHall();
        same("net of '" + text + "'", tell(hall, text), places);
        same("fault of '" + text + "'", hall.fault(), TokenHall.NONE);
    }

    static boolean fine() {
        return wrong == 0;
    }

    static void end() {
        System.out.println(judged + " answers judged, " + wrong + " wrong");
        if (wrong != 0) {
            System.exit(1);
        }
    }
}
