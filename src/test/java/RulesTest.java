import java.io.IOException;
import java.lang.reflect.Array;
import java.lang.reflect.Field;
import java.lang.reflect.Method;
import java.lang.reflect.Modifier;
import java.nio.file.Files;
import java.nio.file.Path;
import java.util.IdentityHashMap;
import java.util.List;
import java.util.Set;
import java.util.TreeSet;
import java.util.regex.Matcher;
import java.util.regex.Pattern;

/** What LANGUAGE.md binds and a program can look at: the face, words that are left out, sizes. */
public final class RulesTest {
    private static final Path SOURCE = Path.of("src/main/java/DrumLayers.java");
    private static final Set<String> FACE = Set.of("feed", "submit", "tick", "done", "type", "process",
            "job", "paper", "word", "frame", "about", "octet");

    private static int objects;
    private static int elements;

    public static void main(String[] args) throws IOException, IllegalAccessException {
        face();
        for (Class<?> inner : DrumLayers.class.getDeclaredClasses()) {
            inside(inner);
        }
        Bench.due("classes, at most twelve", DrumLayers.class.getDeclaredClasses().length + 1 <= 12, true);
        source();
        sizes();
        Bench.finish();
    }

    private static void face() {
        Set<String> names = new TreeSet<>();
        for (Method m : DrumLayers.class.getDeclaredMethods()) {
            if (Modifier.isPublic(m.getModifiers())) {
                names.add(m.getName());
                Bench.due("of the face: " + m.getName(), FACE.contains(m.getName()), true);
            } else if (!m.isSynthetic()) {
                Bench.due("private: " + m.getName(), Modifier.isPrivate(m.getModifiers()), true);
                Bench.due("a name of its own: " + m.getName(), FACE.contains(m.getName()), false);
            }
        }
        Bench.due("all of the face", names.size(), FACE.size());
        for (Field f : DrumLayers.class.getDeclaredFields()) {
            boolean isConstant = f.getName().equals("NONE");
            Bench.due("private: " + f.getName(), Modifier.isPrivate(f.getModifiers()), !isConstant);
        }
    }

    private static void inside(Class<?> inner) {
        Bench.due("static: " + inner, Modifier.isStatic(inner.getModifiers()), true);
        int fields = 0;
        for (Field f : inner.getDeclaredFields()) {
            boolean isStatic = Modifier.isStatic(f.getModifiers());
            fields += isStatic ? 0 : 1;
            Bench.due("final: " + f, !isStatic || Modifier.isFinal(f.getModifiers()), true);
        }
        Bench.due("fields of " + inner, fields <= 20, true);
        for (Method m : inner.getDeclaredMethods()) {
            Bench.due("a name of its own: " + m, FACE.contains(m.getName()), false);
            Bench.due("parameters of " + m, m.getParameterCount() <= 7, true);
        }
    }

    private static void source() throws IOException {
        String text = Files.readString(SOURCE).replaceAll("(?s)/\\*.*?\\*/", "").replaceAll("//[^\n]*", "");
        Matcher m = Pattern.compile("\\b(throw|throws|try|catch|synchronized|assert|System\\.(?!arraycopy)"
                + "|Exact|Random|Thread|Object|HashMap|toString|hashCode)\\b|->|::|@").matcher(text);
        while (m.find()) {
            Bench.due("left out by the rules: " + m.group(), 1, 0);
        }
        List<String> lines = Files.readAllLines(SOURCE);
        int start = 0;
        for (int i = 0; i < lines.size(); i++) {
            String line = lines.get(i);
            if (line.matches("\\s+(public |private |static )*[\\w<>\\[\\]]+ ?\\w*\\(.*") && !line.endsWith(";")) {
                start = i;
            }
            if (line.matches(" {4}( {4})?}")) {
                Bench.due("a method's lines at " + (start + 1), i - start < 60 || line.equals("    }"), true);
            }
            for (int c = 0; c < line.length(); c++) {
                Bench.due("a sign in line " + (i + 1), line.charAt(c) >= 32 && line.charAt(c) < 127, true);
            }
        }
    }

    /** A run of 512 constructors has to stay far below the room of 600,000 and 7,300,000. */
    private static void sizes() throws IllegalAccessException {
        DrumLayers x = new DrumLayers(12, 6, 1);
        count(x, new IdentityHashMap<>());
        Bench.due("objects of one: " + objects, objects < 300, true);
        Bench.due("fields and elements of one: " + elements, elements < 6000, true);
    }

    private static void count(Object o, IdentityHashMap<Object, Object> seen) throws IllegalAccessException {
        if (o == null || seen.put(o, o) != null) {
            return;
        }
        objects++;
        Class<?> type = o.getClass();
        if (type.isArray()) {
            elements += Array.getLength(o);
            for (int i = 0; !type.getComponentType().isPrimitive() && i < Array.getLength(o); i++) {
                count(Array.get(o, i), seen);
            }
            return;
        }
        if (!type.getName().startsWith("DrumLayers")) {
            // A list of the library: its array of ten comes with the first element.
            objects++;
            elements += 13;
            return;
        }
        for (Field f : type.getDeclaredFields()) {
            if (!Modifier.isStatic(f.getModifiers())) {
                elements++;
                if (!f.getType().isPrimitive()) {
                    f.setAccessible(true);
                    count(f.get(o), seen);
                }
            }
        }
    }
}
