import java.lang.reflect.InvocationTargetException;
import java.lang.reflect.Method;
import java.lang.reflect.Modifier;
import java.nio.ByteBuffer;
import java.nio.charset.StandardCharsets;
import java.util.ArrayList;
import java.util.Arrays;
import java.util.HashMap;
import java.util.List;
import java.util.Map;
import java.util.Random;

/** Runs of any calls on new objects (always the same ones), every answer and exception judged by the second hall. */
public final class RunsTest {
    private static final int RUNS = 700;
    private static final int CALLS = 150;
    // What each call is given (see given()); those that change something come more often.
    private static final String[] FACE = {
        "fault", "told w2", "arc a p w3", "act a w3", "marks p w2", "put p n", "put p n", "may a", "fire a", "fire a", "fire a",
        "fire a", "row a", "row a", "row a", "clear", "judge", "judge", "states m", "state m i p", "dead m i", "lives m a",
        "home m w3", "most m p", "goal p n", "goal p n", "goal p n", "way m b", "step m b i", "cheapest m b", "rows m l",
        "base w2", "kept i p", "round i a", "never", "bound p", "growth", "siphon b i", "is s w3", "looks", "once",
        "two a a w2", "clock t p", "began t a", "period w2", "beat a", "lots d x", "lot d x p", "often m a",
        "needed m b a", "deepest m w2", "first w3", "alike", "image", "image", "restore", "restore", "count w3",
    };
    private static final Map<String, Method> FIRST = methods(TokenHall.class);
    private static final Map<String, Method> SECOND = methods(Second.class);

    private final Random chance;
    // One of so many arguments is any number at all.
    private final int rareness;
    private final int most;
    private final TokenHall hall = new TokenHall();
    private final Second second = new Second();
    private final List<String> calls = new ArrayList<>();

    private RunsTest(int seed) {
        chance = new Random(seed);
        calls.add("run " + seed);
        rareness = new int[] {1000, 40, 8}[chance.nextInt(3)];
        most = new int[] {6, 25, 60}[chance.nextInt(3)];
    }

    public static void main(String[] args) throws IllegalAccessException {
        int from = args.length > 0 ? Integer.parseInt(args[0]) : 0;
        int to = args.length > 1 ? Integer.parseInt(args[1]) : RUNS;
        Checks.same("calls of the face", Arrays.stream(FACE).map(c -> c.split(" ")[0]).distinct().count(), FIRST.size() - 2);
        for (int seed = from; seed < to && Checks.fine(); seed++) {
            new RunsTest(seed).run();
        }
        Checks.end();
    }

    private static Map<String, Method> methods(Class<?> ofClass) {
        Map<String, Method> all = new HashMap<>();
        for (Method m : ofClass.getDeclaredMethods()) {
            if (ofClass == Second.class || Modifier.isPublic(m.getModifiers())) {
                all.put(m.getName(), m);
            }
        }
        return all;
    }

    private void run() throws IllegalAccessException {
        if (chance.nextInt(12) != 0) {
            tell(false);
        }
        while (calls.size() < CALLS && Checks.fine()) {
            int kind = chance.nextInt(80);
            if (kind == 0) {
                tell(chance.nextBoolean());
            } else if (kind == 1) {
                judge("feed", chance.nextInt(), chance.nextInt(), 0, -1, 1);
            } else if (kind == 2) {
                judgeNet(any(chance.nextInt(21)));
            } else {
                String[] words = FACE[chance.nextInt(FACE.length)].split(" ");
                Object[] given = new Object[words.length - 1];
                for (int i = 0; i < given.length; i++) {
                    given[i] = given(words[i + 1]);
                }
                judge(words[0], given);
            }
        }
    }

    private void tell(boolean spoiled) throws IllegalAccessException {
        if (second.count(2) > 0) {
            judgeNet(0);
        }
        Model model = new Model(chance, 5, 5, 1 + chance.nextInt(4));
        second.know(model);
        String text = spoiled ? FaultTest.spoiled(chance, model.text()) : model.text();
        byte[] bytes = Arrays.copyOf(text.getBytes(StandardCharsets.ISO_8859_1), (text.length() + 19) / 20 * 20);
        for (int i = 0; i < bytes.length; i += 20) {
            Object[] numbers = new Object[5];
            for (int k = 0; k < 5; k++) {
                numbers[k] = ByteBuffer.wrap(bytes, i + 4 * k, 4).getInt();
            }
            judge("feed", numbers);
        }
        judgeNet(text.length());
        judge("fault");
    }

    private void judgeNet(int n) throws IllegalAccessException {
        if (second.canRead(n)) {
            judge("net", n);
        }
    }

    private int any(int usual) {
        int[] others = {-1, usual + 1, -usual, 8, 100, 2001, 3001, Integer.MIN_VALUE, Integer.MAX_VALUE};
        return chance.nextInt(rareness) == 0 ? others[chance.nextInt(others.length)] : usual;
    }

    /** m a told number, a an act, p a place, w a what, i a small number, n marks, l a length, s bits, t moments, d draws. */
    private Object given(String kind) {
        switch (kind.charAt(0)) {
            case 'm':
                return any(chance.nextBoolean() ? most : 1 + chance.nextInt(most));
            case 'a':
                return any(chance.nextInt(Math.max(1, second.told(1))));
            case 'p':
                return any(chance.nextInt(Math.max(1, second.told(0))));
            case 'w':
                return any(chance.nextInt(kind.charAt(1) - '0'));
            case 'b':
                return chance.nextBoolean();
            case 'n':
                return any(chance.nextInt(12) == 0 ? chance.nextInt(101) : chance.nextInt(4));
            case 'l':
                return any(chance.nextInt(21));
            case 's':
                return any(chance.nextInt(1 << second.told(0)));
            case 't':
                return any(chance.nextInt(chance.nextBoolean() ? 9 : 2001));
            case 'd':
                return any(1 + chance.nextInt(30));
            case 'x':
                return chance.nextInt();
            default:
                return any(chance.nextInt(6));
        }
    }

    private void judge(String name, Object... given) throws IllegalAccessException {
        String got = answer(hall, FIRST.get(name), given);
        String due = answer(second, SECOND.get(name), given);
        String call = name + Arrays.toString(given);
        Checks.same(got.equals(due) ? call : String.join("\n", calls) + "\n" + call, got, due);
        calls.add(call + " -> " + got);
    }

    private static String answer(Object of, Method call, Object[] given) throws IllegalAccessException {
        try {
            return String.valueOf(call.invoke(of, given));
        } catch (InvocationTargetException e) {
            return e.getCause().getClass().getName();
        }
    }
}
