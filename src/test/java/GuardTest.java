import java.lang.reflect.InvocationTargetException;
import java.lang.reflect.Method;
import java.lang.reflect.Modifier;
import java.util.Arrays;
import java.util.Comparator;
import java.util.List;
import java.util.Random;

/** Any calls in any order with any arguments: no exception but those declared, each thrown by the class itself. */
public final class GuardTest {
    private static final int HALLS = 300;
    private static final int CALLS = 512;
    private static final List<String> OWN_TEXTS =
            List.of("no such act", "no such place", "no such number", "the two acts are one");
    private static final int[] EDGES = {
        Integer.MIN_VALUE, -3, -2, -1, 0, 1, 2, 3, 5, 7, 8, 9, 20, 21, 99, 100, 255, 256, 999, 1000, 1001, 2000, 2001,
        2999, 3000, 3001, Integer.MAX_VALUE,
    };

    public static void main(String[] args) throws IllegalAccessException {
        face();
        Method[] methods = TokenHall.class.getDeclaredMethods();
        methods = Arrays.stream(methods).filter(m -> Modifier.isPublic(m.getModifiers()))
                .sorted(Comparator.comparing(Method::getName)).toArray(Method[]::new);
        Random chance = new Random(11);
        for (int i = 0; i < HALLS && Checks.fine(); i++) {
            TokenHall hall = new TokenHall();
            if (i % 10 != 0) {
                Checks.tell(hall, new Model(chance, 8, 8, 1 + i % 9).text());
            }
            for (int c = 0; c < CALLS && Checks.fine(); c++) {
                Method m = methods[chance.nextInt(methods.length)];
                call(hall, m, arguments(chance, m));
            }
        }
        Checks.end();
    }

    private static void face() {
        int methods = 0;
        for (Method m : TokenHall.class.getDeclaredMethods()) {
            int how = m.getModifiers();
            methods += Modifier.isPublic(how) ? 1 : 0;
            Checks.same(m + " is public or private", Modifier.isPublic(how) || Modifier.isPrivate(how), true);
        }
        Checks.same("methods of the face", methods, 49);
        Checks.same("fields of the face", Arrays.stream(TokenHall.class.getDeclaredFields())
                .filter(f -> !Modifier.isPrivate(f.getModifiers())).count(), 2);
        Checks.same("constructors", TokenHall.class.getConstructors().length, 1);
    }

    private static Object[] arguments(Random chance, Method m) {
        Class<?>[] types = m.getParameterTypes();
        Object[] given = new Object[types.length];
        for (int i = 0; i < types.length; i++) {
            int small = chance.nextInt(8);
            int any = EDGES[chance.nextInt(EDGES.length)];
            given[i] = types[i] == boolean.class ? (Object) chance.nextBoolean() : chance.nextInt(3) == 0 ? any : small;
        }
        if (types.length > 0 && types[0] == int.class && m.getName().matches("states|state|dead|way|lives|often|home")) {
            given[0] = chance.nextInt(3) == 0 ? given[0] : (Object) (1 + chance.nextInt(300));
        }
        return given;
    }

    private static void call(TokenHall hall, Method m, Object[] given) throws IllegalAccessException {
        try {
            m.invoke(hall, given);
        } catch (InvocationTargetException e) {
            Throwable t = e.getCause();
            boolean declared = Arrays.asList(m.getExceptionTypes()).contains(t.getClass());
            boolean own = OWN_TEXTS.contains(t.getMessage());
            Checks.same(m.getName() + Arrays.toString(given) + " threw " + t, declared && own, true);
        }
    }
}
