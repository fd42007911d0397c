import java.io.IOException;
import java.nio.file.Files;
import java.nio.file.Path;
import java.util.ArrayList;
import java.util.LinkedHashMap;
import java.util.List;
import java.util.Map;

/** The sentences of ../shared/DOC.md, which tests quote before they test them; it runs in the project's folder. */
final class Document {

    private static final Path FILE = Path.of("../shared/DOC.md");
    private static final boolean IS_THERE = Files.isReadable(FILE);
    private static final Map<String, String> SECTIONS = sections();
    private static final Map<String, List<String>> QUOTED = new LinkedHashMap<>();

    private Document() {
    }

    /** What is reported from now on belongs to this sentence. */
    static void sentence(String section, String text) {
        Check.under(section + ", \"" + text + "\": ");
        QUOTED.computeIfAbsent(section, s -> new ArrayList<>()).add(text);
        Check.isTrue("the sentence is the document's",
                !IS_THERE || SECTIONS.getOrDefault(section, "").contains(text));
    }

    /** Each line of the promises that names a range, an answer or an exception has been quoted, at least in part. */
    static void promisesAreQuoted(int first, int last) {
        Check.under("");
        int lines = 0;
        for (int n = first; n <= last; n++) {
            String promise = "Promise " + n;
            List<String> quoted = QUOTED.getOrDefault(promise, List.of());
            Check.isTrue(promise + " is quoted", !quoted.isEmpty());
            for (String line : SECTIONS.getOrDefault(promise, "").split("\n")) {
                if (line.startsWith("- `") || line.startsWith("Returns ") || line.startsWith("Throws ")) {
                    lines++;
                    Check.isTrue(promise + ": a test quotes " + line, quoted.stream().anyMatch(line::contains));
                }
            }
        }
        Check.isTrue("there are such lines", !IS_THERE || lines > last - first);
    }

    /** By heading; of "Promise 2: buy" the name is "Promise 2". */
    private static Map<String, String> sections() {
        Map<String, String> found = new LinkedHashMap<>();
        String name = "";
        for (String line : lines()) {
            if (line.startsWith("#")) {
                name = line.replaceFirst("^#+ ", "").replaceFirst(":.*", "");
            } else {
                found.merge(name, line + "\n", String::concat);
            }
        }
        return found;
    }

    /** Without the document the class can still be tested, but not what the tests quote. */
    private static List<String> lines() {
        if (!IS_THERE) {
            System.out.println("note: " + FILE + " is not there, so quotes are not compared with it");
            return List.of();
        }
        try {
            return Files.readAllLines(FILE);
        } catch (IOException e) {
            throw new IllegalStateException("the tests quote " + FILE + ", which cannot be read", e);
        }
    }
}
