import java.io.IOException;
import java.lang.reflect.Method;
import java.lang.reflect.Modifier;
import java.nio.file.Files;
import java.nio.file.Path;
import java.util.Set;
import java.util.TreeSet;
import java.util.regex.Matcher;
import java.util.regex.Pattern;

/** Runs the calls of README.md; a comment that begins with a number, true or false is the answer that is due. */
public final class ReadmeTest {
    private static final Pattern CALL = Pattern.compile("bench\\.(\\w+)\\(([^)]*)\\);\\s*// (.*)");
    private static final Pattern ANSWER = Pattern.compile("(-?\\d+|true|false)\\b.*");
    private static final Set<String> used = new TreeSet<>();
    private static int wrong = 0;
    private static int calls = 0;

    private static Method method(String name) {
        for (Method m : DigitBench.class.getDeclaredMethods()) {
            if (m.getName().equals(name) && Modifier.isPublic(m.getModifiers())) return m;
        }
        throw new IllegalStateException("README.md has a call of " + name + ", which is none");
    }

    private static Object[] arguments(Method m, String text) {
        String[] words = text.isBlank() ? new String[0] : text.split(", *");
        Object[] arguments = new Object[words.length];
        for (int i = 0; i < words.length; i++) {
            boolean isBit = m.getParameterTypes()[i] == boolean.class;
            arguments[i] = isBit ? (Object) Boolean.valueOf(words[i]) : (Object) Integer.decode(words[i]);
        }
        return arguments;
    }

    private static void run(DigitBench bench, String line) throws ReflectiveOperationException {
        Matcher call = CALL.matcher(line);
        if (!call.matches()) throw new IllegalStateException("README.md has a line that is no call with a comment: " + line);
        Method m = method(call.group(1));
        Object got = m.invoke(bench, arguments(m, call.group(2)));
        used.add(m.getName());
        calls++;
        Matcher due = ANSWER.matcher(call.group(3));
        if (!due.matches() || !due.group(1).equals(got.toString())) {
            wrong++;
            System.out.println("answered " + got + ": " + line);
        }
    }

    public static void main(String[] args) throws IOException, ReflectiveOperationException {
        Path file = Path.of(System.getProperty("project", "."), "README.md");
        DigitBench bench = null;
        boolean inside = false;
        for (String line : Files.readAllLines(file)) {
            if (line.startsWith("```")) inside = line.equals("```java");
            else if (inside && line.startsWith("DigitBench bench = new DigitBench();")) bench = new DigitBench();
            else if (inside) run(bench, line);
        }
        for (Method m : DigitBench.class.getDeclaredMethods()) {
            if (Modifier.isPublic(m.getModifiers()) && !used.contains(m.getName())) {
                wrong++;
                System.out.println("README.md does not show " + m.getName());
            }
        }
        System.out.println(calls + " calls of README.md, " + (wrong == 0 ? "all as it says" : wrong + " not as it says"));
        if (wrong != 0) System.exit(1);
    }
}
