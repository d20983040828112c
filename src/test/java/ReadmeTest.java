import java.lang.reflect.Method;
import java.nio.charset.StandardCharsets;
import java.nio.file.Files;
import java.nio.file.Path;
import java.util.ArrayList;
import java.util.List;
import java.util.regex.Matcher;
import java.util.regex.Pattern;

/** README.md: its example answers what it says, and its tables name every call with what it throws. */
public final class ReadmeTest {
    private static final Path README = Path.of("README.md");
    private static final Pattern STEP = Pattern.compile("x\\.(\\w+)\\(([^)]*)\\);\\s*// (?:(-?\\d+)|\"(.*)\").*");
    private static final Pattern ROW = Pattern.compile("\\| `(\\w+\\(.*?\\))` \\| .* \\|(.*)\\|");

    public static void main(String[] args) throws Exception {
        example();
        tables();
        Check.end();
    }

    private static void example() throws Exception {
        SugarDice x = new SugarDice();
        int steps = 0;
        for (String line : DocFace.javaOf(README)) {
            Matcher step = STEP.matcher(line);
            if (step.matches()) {
                List<Integer> values = new ArrayList<>();
                for (String value : step.group(2).split(", ")) {
                    values.add(Integer.decode(value));
                }
                long got = called(x, step.group(1), values);
                if (step.group(3) == null) {
                    Check.same("README's feed", textOf(values), step.group(4));
                } else {
                    Check.due("README's " + step.group(1) + values, got, Long.parseLong(step.group(3)));
                }
                steps++;
            }
        }
        Check.due("steps of README's example that say what is due", steps, DocFace.javaOf(README).size() - 1);
    }

    private static long called(SugarDice x, String name, List<Integer> values) throws Exception {
        for (Method m : SugarDice.class.getMethods()) {
            if (m.getName().equals(name)) {
                return ((Number) m.invoke(x, values.toArray())).longValue();
            }
        }
        throw new AssertionError("README calls what is no call: " + name);
    }

    private static String textOf(List<Integer> fed) {
        java.nio.ByteBuffer bytes = java.nio.ByteBuffer.allocate(20);
        fed.forEach(bytes::putInt);
        return new String(bytes.array(), StandardCharsets.ISO_8859_1);
    }

    private static void tables() throws Exception {
        List<String> told = new ArrayList<>();
        for (String line : Files.readAllLines(README)) {
            Matcher row = ROW.matcher(line);
            if (row.matches()) {
                told.add(row.group(1) + " throws " + row.group(2).trim());
            }
        }
        List<String> want = new ArrayList<>();
        for (String call : DocFace.declarations()) {
            if (DocFace.isCall(call)) {
                want.add(DocFace.nameAndParameters(call) + " throws " + DocFace.exceptions(call).replace("Exception", ""));
            }
        }
        Check.due("README's rows of calls", told.size(), want.size());
        for (int i = 0; i < want.size() && i < told.size(); i++) {
            Check.same("README's row " + i, told.get(i), want.get(i));
        }
    }
}
