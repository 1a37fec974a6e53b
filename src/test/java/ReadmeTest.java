import java.io.IOException;
import java.lang.reflect.InvocationTargetException;
import java.lang.reflect.Method;
import java.nio.file.Files;
import java.nio.file.Path;
import java.util.regex.Matcher;
import java.util.regex.Pattern;

/** The answers that README.md shows behind its calls. */
public final class ReadmeTest {
    private static final Pattern TELL = Pattern.compile("tell\\(hall, \"(.*)\"\\);\\s*// (-?\\d+)(?::.*)?");
    private static final Pattern CALL = Pattern.compile("hall\\.(\\w+)\\((.*)\\);\\s*// (-?\\d+|true|false|\\w+Exception)(?::.*)?");

    private TokenHall hall = new TokenHall();

    public static void main(String[] args) throws IOException, IllegalAccessException {
        ReadmeTest test = new ReadmeTest();
        boolean shown = false;
        int calls = 0;
        for (String line : Files.readAllLines(Path.of("README.md"))) {
            shown = line.startsWith("```") ? line.equals("```java") : shown;
            if (shown && !line.startsWith("```") && !line.isEmpty()) {
                calls++;
                test.judge(line);
            }
        }
        Checks.same("README.md shows calls", calls > 50, true);
        Checks.end();
    }

    private void judge(String line) throws IllegalAccessException {
        Matcher tell = TELL.matcher(line);
        Matcher call = CALL.matcher(line);
        if (line.equals("TokenHall hall = new TokenHall();")) {
            hall = new TokenHall();
        } else if (tell.matches()) {
            Checks.same(line, String.valueOf(Checks.tell(hall, tell.group(1))), tell.group(2));
        } else if (call.matches()) {
            Checks.same(line, answer(call.group(1), call.group(2)), call.group(3));
        } else {
            Checks.same(line, "no call with an answer", "one");
        }
    }

    private String answer(String name, String arguments) throws IllegalAccessException {
        for (Method m : TokenHall.class.getMethods()) {
            if (m.getName().equals(name)) {
                String[] words = arguments.isEmpty() ? new String[0] : arguments.split(", ");
                Object[] given = new Object[words.length];
                for (int i = 0; i < words.length; i++) {
                    given[i] = words[i].matches("true|false") ? (Object) Boolean.valueOf(words[i]) : Integer.decode(words[i]);
                }
                try {
                    return String.valueOf(m.invoke(hall, given));
                } catch (InvocationTargetException e) {
                    return e.getCause().getClass().getSimpleName();
                }
            }
        }
        return "no such call";
    }
}
