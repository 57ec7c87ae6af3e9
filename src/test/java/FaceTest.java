import java.lang.reflect.Constructor;
import java.lang.reflect.Field;
import java.lang.reflect.Method;
import java.lang.reflect.Modifier;
import java.nio.file.Files;
import java.nio.file.Path;
import java.util.Arrays;
import java.util.Set;
import java.util.TreeSet;
import java.util.stream.Collectors;

/** The face is the document's, member for member; read from DOC.md, so that it can't drift from it. */
public final class FaceTest {
    public static void main(String[] args) throws Exception {
        String doc = Files.readString(Path.of("..", "shared", "DOC.md"));
        String face = doc.substring(doc.indexOf("```java"), doc.indexOf("```\n", doc.indexOf("```java") + 7));
        Set<String> due = new TreeSet<>();
        for (String line : face.split("\n")) {
            String told = line.trim();
            if (told.startsWith("public") && !told.contains("class")) {
                due.add(told.replaceAll(" throws .*| = .*", "").replaceAll("(int|long|boolean) \\w+([,)])", "$1$2").replace(";", ""));
            }
        }
        Set<String> got = new TreeSet<>();
        for (Constructor<?> c : EveryMeasure.class.getDeclaredConstructors()) {
            got.add(Modifier.toString(c.getModifiers()) + " EveryMeasure" + parameters(c.getParameterTypes()));
        }
        for (Method m : EveryMeasure.class.getDeclaredMethods()) {
            if (!Modifier.isPrivate(m.getModifiers())) {
                got.add(Modifier.toString(m.getModifiers()) + " " + m.getReturnType() + " " + m.getName() + parameters(m.getParameterTypes()));
            }
        }
        for (Field f : EveryMeasure.class.getDeclaredFields()) {
            if (!Modifier.isPrivate(f.getModifiers())) {
                got.add(Modifier.toString(f.getModifiers()) + " " + f.getType() + " " + f.getName());
            }
        }
        Set<String> missing = new TreeSet<>(due);
        missing.removeAll(got);
        Set<String> tooMuch = new TreeSet<>(got);
        tooMuch.removeAll(due);
        missing.forEach(m -> System.out.println("missing: " + m));
        tooMuch.forEach(m -> System.out.println("not in the document: " + m));
        Due.is("missing", 0, missing.size());
        Due.is("too much", 0, tooMuch.size());
        Due.is("members of the face", 35, due.size());
        Due.is("final and public", Modifier.PUBLIC | Modifier.FINAL, EveryMeasure.class.getModifiers());
        Due.end();
    }

    private static String parameters(Class<?>[] types) {
        return Arrays.stream(types).map(Class::toString).collect(Collectors.joining(", ", "(", ")"));
    }
}
