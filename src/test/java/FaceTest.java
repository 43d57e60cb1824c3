import java.io.IOException;
import java.lang.reflect.Constructor;
import java.lang.reflect.Field;
import java.lang.reflect.Method;
import java.lang.reflect.Modifier;
import java.nio.file.Files;
import java.nio.file.Path;
import java.util.ArrayList;
import java.util.List;
import java.util.Set;
import java.util.TreeSet;

/** The document's public face, and the rules of LANGUAGE.md that can be seen from outside. */
public final class FaceTest {
    private static final Set<String> FACE = Set.of(
        "int feed(int,int,int,int,int)", "boolean end(int)", "boolean base(int,int)", "boolean number(int,int,int,int)",
        "boolean make(int,int,int,int)", "int part(int,int)", "int compare(int,int)", "long floor(int)", "int digits(int)",
        "int told(int)", "int digit(int)", "boolean value(int,int,int)", "int allowed()", "int one(int)", "long rows(int)",
        "boolean whole(int,int)", "int rank(int)", "boolean ring(boolean,int,int,int,int)", "boolean set()",
        "int write(int,int)", "int written(int)", "int place(int)", "int rounds(int)", "int round(int,int)",
        "int ending(int)", "int count(int)");
    private static final String[] BANNED = {"->", "::", "synchronized", "finally", "assert ", "Exact(", "static {", "catch",
        "System.", "protected", "Random", "getMessage", "hashCode", "double", "float", "var "};

    private static int wrong = 0;

    private static void must(boolean holds, String what) {
        if (!holds) {
            wrong++;
            System.out.println("broken: " + what);
        }
    }

    private static String signature(Method m) {
        List<String> types = new ArrayList<>();
        for (Class<?> t : m.getParameterTypes()) types.add(t.getSimpleName());
        return m.getReturnType().getSimpleName() + " " + m.getName() + "(" + String.join(",", types) + ")";
    }

    private static void face() {
        Set<String> found = new TreeSet<>();
        Set<String> names = new TreeSet<>();
        for (Method m : DigitBench.class.getDeclaredMethods()) {
            if (Modifier.isPublic(m.getModifiers())) {
                found.add(signature(m));
                names.add(m.getName());
            }
        }
        must(found.equals(FACE), "the public methods are " + found);
        must(Modifier.isFinal(DigitBench.class.getModifiers()), "the class is final");
        Constructor<?>[] made = DigitBench.class.getDeclaredConstructors();
        must(made.length == 1 && made[0].getParameterCount() == 0 && Modifier.isPublic(made[0].getModifiers()), "one public constructor");
        for (Method m : DigitBench.class.getDeclaredMethods()) {
            boolean open = Modifier.isPublic(m.getModifiers());
            must(open || Modifier.isPrivate(m.getModifiers()) && !names.contains(m.getName()), "method " + m);
        }
        for (Field f : DigitBench.class.getDeclaredFields()) {
            must(f.getName().equals("NONE") || Modifier.isPrivate(f.getModifiers()), "field " + f);
        }
        for (Class<?> c : DigitBench.class.getDeclaredClasses()) nested(c, names);
        must(DigitBench.class.getDeclaredClasses().length <= 12, "few classes");
        must(DigitBench.NONE == -1, "NONE is -1");
    }

    private static void nested(Class<?> c, Set<String> names) {
        must(Modifier.isStatic(c.getModifiers()) && !Modifier.isPublic(c.getModifiers()), "class " + c);
        int fields = 0;
        for (Field f : c.getDeclaredFields()) {
            if (Modifier.isStatic(f.getModifiers())) must(Modifier.isFinal(f.getModifiers()), "field " + f); else fields++;
        }
        must(fields <= 20, "few fields in " + c);
        for (Method m : c.getDeclaredMethods()) {
            must(!names.contains(m.getName()), "method " + m);
            must(m.getParameterCount() <= 7, "few parameters in " + m);
        }
    }

    private static void source() throws IOException {
        Path file = Path.of(System.getProperty("project", "."), "src/main/java/DigitBench.java");
        List<String> lines = Files.readAllLines(file);
        int start = 0;
        for (int i = 0; i < lines.size(); i++) {
            String line = lines.get(i);
            for (String word : BANNED) must(!line.contains(word), "line " + (i + 1) + " has " + word);
            must(!line.startsWith("import ") || line.equals("import java.util.NoSuchElementException;"), line);
            must(!line.contains("throw new ") || line.contains("NoSuchElementException(\""), line);
            if (line.isBlank()) start = i;
            must(i - start <= 60, "a stretch of over 60 lines at line " + (i + 1));
        }
    }

    public static void main(String[] args) throws IOException {
        face();
        source();
        System.out.println(wrong == 0 ? "the face is as due" : wrong + " rules are broken");
        if (wrong != 0) System.exit(1);
    }
}
