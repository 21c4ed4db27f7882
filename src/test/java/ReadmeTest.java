import java.io.IOException;
import java.lang.reflect.InvocationTargetException;
import java.lang.reflect.Method;
import java.lang.reflect.Modifier;
import java.nio.file.Files;
import java.nio.file.Path;
import java.util.Map;
import java.util.TreeMap;
import java.util.regex.Matcher;
import java.util.regex.Pattern;

/** README.md shows calls and their answers: they are made here, one behind the other, on one object. */
public final class ReadmeTest {
    private static final Path PAGE = Path.of("README.md");
    private static final String MAKING = "IntervalRouter x = new IntervalRouter();";

    /** A call, and behind it the answer that the page tells. */
    private static final Pattern CALL = Pattern.compile("x\\.(\\w+)\\((.*)\\); +// (-?[0-9.]+)(:.*)?");

    private final Map<String, Method> face = new TreeMap<>();
    private IntervalRouter x;

    private ReadmeTest() {
        for (Method method : IntervalRouter.class.getDeclaredMethods()) {
            if (Modifier.isPublic(method.getModifiers())) {
                face.put(method.getName(), method);
            }
        }
    }

    public static void main(String[] args) throws IOException {
        ReadmeTest test = new ReadmeTest();
        test.makeCalls();
        test.lookForCalls(Files.readString(PAGE));
        Expect.end();
    }

    private void makeCalls() throws IOException {
        boolean code = false;
        for (String line : Files.readAllLines(PAGE)) {
            if (line.startsWith("```")) {
                code = line.equals("```java");
            } else if (code && line.equals(MAKING)) {
                x = new IntervalRouter();
            } else if (code) {
                makeCall(line);
            }
        }
    }

    private void makeCall(String line) {
        Matcher parts = CALL.matcher(line);
        boolean known = parts.matches() && face.containsKey(parts.group(1));
        Expect.yes("that README.md shows a call and its answer in: " + line, known);
        if (known) {
            Method method = face.get(parts.group(1));
            Expect.dueText("README.md: " + line, answer(method, parts.group(2)), parts.group(3));
        }
    }

    private String answer(Method method, String arguments) {
        String[] words = arguments.isEmpty() ? new String[0] : arguments.split(", ");
        Object[] values = new Object[words.length];
        for (int i = 0; i < words.length; i++) {
            values[i] = value(words[i]);
        }
        try {
            return String.valueOf(method.invoke(x, values));
        } catch (InvocationTargetException e) {
            return e.getCause().toString();
        } catch (IllegalAccessException e) {
            throw new AssertionError(e);
        }
    }

    private static Object value(String word) {
        if (word.equals("true") || word.equals("false")) {
            return Boolean.valueOf(word);
        }
        return word.startsWith("'") ? (int) word.charAt(1) : Integer.parseInt(word);
    }

    private void lookForCalls(String page) {
        for (String name : face.keySet()) {
            Expect.yes("that README.md names `" + name + "`", page.contains("`" + name + "`"));
        }
    }
}
