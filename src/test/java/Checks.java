import java.nio.charset.StandardCharsets;
import java.util.Arrays;

/** What all tests share: telling texts to a hall, and judging answers. */
final class Checks {
    static final Class<IllegalArgumentException> BAD = IllegalArgumentException.class;
    static final Class<IndexOutOfBoundsException> PLACE = IndexOutOfBoundsException.class;
    static final Class<java.util.NoSuchElementException> ACT = java.util.NoSuchElementException.class;

    private static int wrong;
    private static int judged;

    private Checks() {
    }

    static void same(String what, long got, long due) {
        judged++;
        if (got != due) {
            wrong++;
            System.out.println(what + " answered " + got + ", due is " + due);
        }
    }

    static void same(String what, boolean got, boolean due) {
        same(what, got ? 1 : 0, due ? 1 : 0);
    }

    static void fails(String what, Class<? extends RuntimeException> due, Runnable call) {
        judged++;
        String got = "nothing";
        try {
            call.run();
        } catch (RuntimeException e) {
            if (e.getClass() == due) {
                return;
            }
            got = e.toString();
        }
        wrong++;
        System.out.println(what + " threw " + got + ", due is " + due.getName());
    }

    /** Feeds the bytes of a text, and answers how many there are; the rest of the tape is 0. */
    static int feed(TokenHall hall, String text) {
        byte[] bytes = text.getBytes(StandardCharsets.ISO_8859_1);
        byte[] whole = Arrays.copyOf(bytes, (bytes.length + 19) / 20 * 20);
        for (int i = 0; i < whole.length; i += 20) {
            hall.feed(number(whole, i), number(whole, i + 4), number(whole, i + 8),
                    number(whole, i + 12), number(whole, i + 16));
        }
        return bytes.length;
    }

    private static int number(byte[] bytes, int at) {
        return (bytes[at] & 255) << 24 | (bytes[at + 1] & 255) << 16 | (bytes[at + 2] & 255) << 8
                | bytes[at + 3] & 255;
    }

    static int tell(TokenHall hall, String text) {
        return hall.net(feed(hall, text));
    }

    static TokenHall hall(String text) {
        TokenHall hall = new TokenHall();
        int places = tell(hall, text);
        if (places < 1) {
            wrong++;
            System.out.println("not a net: " + text + " (" + places + " at " + hall.fault() + ")");
        }
        return hall;
    }

    /** Of a text with a fault: its number and its place. */
    static void fault(String text, int number, int at) {
        TokenHall hall = new TokenHall();
        same("net of '" + text + "'", tell(hall, text), number - 10);
        same("fault of '" + text + "'", hall.fault(), at);
    }

    static boolean fine() {
        return wrong == 0;
    }

    static void end() {
        System.out.println(judged + " answers judged, " + wrong + " wrong");
        if (wrong != 0) {
            System.exit(1);
        }
    }
}
