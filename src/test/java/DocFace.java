import java.io.IOException;
import java.nio.file.Files;
import java.nio.file.Path;
import java.util.ArrayList;
import java.util.List;

/** The public face as the document has it: its declarations in their order, without their ends. */
final class DocFace {
    private static final Path DOCUMENT = Path.of("../shared/DOC.md");

    private DocFace() { }

    static List<String> declarations() throws IOException {
        List<String> found = new ArrayList<>();
        for (String line : javaOf(DOCUMENT)) {
            if (line.startsWith("    public ") && line.endsWith(";")) {
                found.add(line.substring(0, line.length() - 1).trim());
            }
        }
        return found;
    }

    /** The lines of the first piece of Java in a page. */
    static List<String> javaOf(Path page) throws IOException {
        List<String> lines = Files.readAllLines(page);
        int from = lines.indexOf("```java") + 1;
        return lines.subList(from, from + lines.subList(from, lines.size()).indexOf("```"));
    }

    static boolean isCall(String declaration) {
        return declaration.contains("(") && !declaration.startsWith("public SugarDice(");
    }

    /** Of a call: its name and its parameters' names. */
    static String nameAndParameters(String call) {
        String named = call.replaceAll("^public \\w+ ", "").replaceAll("\\).*", ")");
        return named.replaceAll("(int|long) (\\w+)(?=[,)])", "$2");
    }

    static String exceptions(String call) {
        return call.contains(" throws ") ? call.replaceAll(".* throws ", "") : "";
    }
}
