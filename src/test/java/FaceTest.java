import java.lang.reflect.Constructor;
import java.lang.reflect.Executable;
import java.lang.reflect.Field;
import java.lang.reflect.Method;
import java.lang.reflect.Modifier;
import java.nio.file.Files;
import java.nio.file.Path;
import java.util.ArrayList;
import java.util.Arrays;
import java.util.Collections;
import java.util.HashSet;
import java.util.IdentityHashMap;
import java.util.List;
import java.util.Set;
import java.util.TreeSet;

/** The public face of the document, and of LANGUAGE.md what can be seen from outside. */
public final class FaceTest {
    public static void main(String[] args) throws Exception {
        face();
        members(SugarDice.class);
        for (Class<?> inside : SugarDice.class.getDeclaredClasses()) {
            Check.due(inside + " is static", Modifier.isStatic(inside.getModifiers()), true);
            members(inside);
        }
        Check.due("classes are some twelve at most", SugarDice.class.getDeclaredClasses().length <= 11, true);
        source();
        room();
        Check.end();
    }

    /** The document's members and no others, each with its modifiers, types and the exceptions that it names, in order. */
    private static void face() throws Exception {
        Set<String> want = new TreeSet<>();
        for (String declared : DocFace.declarations()) {
            want.add(declared.replaceAll("(int|long) \\w+(?=[,)])", "$1"));
        }
        Check.due("members of the document's face", want.size(), 57);
        Set<String> got = new TreeSet<>();
        for (Method m : SugarDice.class.getDeclaredMethods()) {
            if (!Modifier.isPrivate(m.getModifiers())) {
                got.add(Modifier.toString(m.getModifiers()) + " " + m.getReturnType() + " " + m.getName() + behindName(m));
            }
        }
        for (Constructor<?> made : SugarDice.class.getDeclaredConstructors()) {
            got.add(Modifier.toString(made.getModifiers()) + " " + made.getName() + behindName(made));
        }
        for (Field f : SugarDice.class.getDeclaredFields()) {
            if (!Modifier.isPrivate(f.getModifiers())) {
                got.add(Modifier.toString(f.getModifiers()) + " " + f.getType() + " " + f.getName() + " = " + f.get(null));
            }
        }
        for (String member : want) {
            Check.due("the face has " + member, got.contains(member), true);
        }
        for (String member : got) {
            Check.due("the document has " + member, want.contains(member), true);
        }
        Check.same("the class's kind:", Modifier.toString(SugarDice.class.getModifiers()), "public final");
    }

    private static String behindName(Executable e) {
        String types = String.join(", ", Arrays.stream(e.getParameterTypes()).map(Class::getName).toList());
        String named = String.join(", ", Arrays.stream(e.getExceptionTypes()).map(Class::getSimpleName).toList());
        return "(" + types + ")" + (named.isEmpty() ? "" : " throws " + named);
    }

    private static void members(Class<?> type) {
        Set<String> faced = new HashSet<>();
        for (Method m : SugarDice.class.getMethods()) {
            faced.add(m.getName());
        }
        for (Method m : type.getDeclaredMethods()) {
            boolean own = type == SugarDice.class && Modifier.isPublic(m.getModifiers());
            Check.due(type + "." + m.getName() + " has a name of its own", own || !faced.contains(m.getName()), true);
            Check.due(type + "." + m.getName() + " takes seven at most", m.getParameterCount() <= 7, true);
        }
        int fields = 0;
        for (Field f : type.getDeclaredFields()) {
            boolean fixed = Modifier.isStatic(f.getModifiers());
            Check.due(type + "." + f.getName() + " is final if static", !fixed || Modifier.isFinal(f.getModifiers()), true);
            fields += fixed ? 0 : 1;
        }
        Check.due(type + " has some twenty fields at most", fields <= 20, true);
    }

    private static void source() throws Exception {
        List<String> lines = Files.readAllLines(Path.of("src/main/java/SugarDice.java"));
        String[] refused = {"catch", "finally", "synchronized", "assert", "->", "::", "instanceof", "System.out", "import java.util.*",
            "Exact(", "package ", "double", "float", "static {", "toString", "hashCode"};
        for (String line : lines) {
            for (String word : refused) {
                Check.due("<" + word + "> in: " + line, line.contains(word), false);
            }
            Check.due("an import but for the one: " + line,
                line.startsWith("import") && !line.equals("import java.util.NoSuchElementException;"), false);
        }
        int began = -1;
        for (int i = 0; i < lines.size(); i++) {
            String line = lines.get(i);
            if (line.matches("(    |        )(public|private) [^=;]*\\{")) {
                began = line.contains(" class ") ? -1 : i;
            } else if (began >= 0 && line.matches("(    |        )\\}")) {
                Check.due("sixty lines at most from line " + began, i - began <= 60, true);
                began = -1;
            }
        }
    }

    /** Objects, and fields and elements, that an object holds when all that it can hold is there. */
    private static void room() throws Exception {
        SugarDice x = Check.laid("die 1 2 3 4 5 6 salt;hand 1;");
        long[] first = {0, 0};
        measure(x, Collections.newSetFromMap(new IdentityHashMap<>()), first);
        for (int i = 0; i < 3; i++) {
            x.image(i);
            x.evening(i, 40);
        }
        long[] full = {0, 0};
        measure(x, Collections.newSetFromMap(new IdentityHashMap<>()), full);
        Check.due("a new object has " + first[0] + " parts", first[0] <= 40, true);
        Check.due("a new object has " + first[1] + " elements", first[1] <= 5000, true);
        Check.due("a full object has " + full[0] + " parts", full[0] <= 60, true);
        Check.due("a full object has " + full[1] + " elements", full[1] <= 14000, true);
    }

    private static void measure(Object o, Set<Object> seen, long[] counted) throws Exception {
        if (o == null || !seen.add(o)) {
            return;
        }
        counted[0]++;
        if (o.getClass().isArray()) {
            counted[1] += java.lang.reflect.Array.getLength(o);
            if (o instanceof Object[] parts) {
                for (Object part : parts) {
                    measure(part, seen, counted);
                }
            }
            return;
        }
        List<Field> fields = new ArrayList<>(List.of(o.getClass().getDeclaredFields()));
        fields.removeIf(f -> Modifier.isStatic(f.getModifiers()));
        counted[1] += fields.size();
        for (Field f : fields) {
            f.setAccessible(true);
            if (!f.getType().isPrimitive()) {
                measure(f.get(o), seen, counted);
            }
        }
    }
}
