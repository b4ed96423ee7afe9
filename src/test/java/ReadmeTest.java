import java.io.IOException;
import java.lang.reflect.InvocationTargetException;
import java.lang.reflect.Method;
import java.lang.reflect.Modifier;
import java.nio.file.Files;
import java.nio.file.Path;
import java.util.HashMap;
import java.util.Map;
import java.util.TreeSet;
import java.util.regex.Matcher;
import java.util.regex.Pattern;

/** The README's example: each of its calls is made, and answers what is written behind it. */
public final class ReadmeTest {
    private static final Pattern MADE = Pattern.compile("BackSteps x = new BackSteps\\((.+), (.+)\\); +// .+");
    private static final Pattern CALLED =
            Pattern.compile("x\\.([a-z]+)\\((.*)\\); +// (-?[0-9]+|throws [A-Za-z]+)(: .+)?");

    private static final Due due = new Due("ReadmeTest");
    private static final Map<String, Method> face = new HashMap<>();
    private static final TreeSet<String> called = new TreeSet<>();
    private static BackSteps x;

    private static Object[] numbers(String arguments) {
        if (arguments.isEmpty()) {
            return new Object[0];
        }
        String[] texts = arguments.split(", ");
        Object[] all = new Object[texts.length];
        for (int i = 0; i < texts.length; i++) {
            all[i] = Long.decode(texts[i]).intValue();
        }
        return all;
    }

    private static String answer(Method method, Object[] arguments) throws IllegalAccessException {
        try {
            return method.invoke(x, arguments).toString();
        } catch (InvocationTargetException e) {
            return "throws " + e.getCause().getClass().getSimpleName();
        }
    }

    private static void line(String text) throws IllegalAccessException {
        Matcher made = MADE.matcher(text);
        if (made.matches()) {
            x = new BackSteps(Integer.decode(made.group(1)), Integer.decode(made.group(2)));
            return;
        }
        Matcher call = CALLED.matcher(text);
        boolean understood = x != null && call.matches() && face.containsKey(call.group(1));
        due.is("a call with its answer: " + text, understood ? 1 : 0, 1);
        if (understood) {
            called.add(call.group(1));
            due.same(text, " " + answer(face.get(call.group(1)), numbers(call.group(2))), " " + call.group(3));
        }
    }

    private static void example(String readme) throws IllegalAccessException {
        boolean inside = false;
        for (String text : readme.lines().toList()) {
            if (text.startsWith("```")) {
                inside = text.equals("```java");
            } else if (inside) {
                line(text);
            }
        }
    }

    public static void main(String[] args) throws IOException, IllegalAccessException {
        for (Method m : BackSteps.class.getDeclaredMethods()) {
            if (Modifier.isPublic(m.getModifiers())) {
                face.put(m.getName(), m);
            }
        }
        String readme = Files.readString(Path.of("README.md"));
        example(readme);
        due.same("calls of the example", " " + called, " " + new TreeSet<>(face.keySet()));
        for (String name : face.keySet()) {
            due.is("the table has " + name, readme.contains("| `" + name + "(") ? 1 : 0, 1);
        }
        due.is("it says how to run the tests", readme.contains("```sh\n.ci/run\n```") ? 1 : 0, 1);
        due.end();
    }
}
