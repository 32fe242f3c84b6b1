import java.nio.file.Files;
import java.nio.file.Path;
import java.util.Arrays;
import java.util.LinkedHashMap;
import java.util.Map;

/**
 * A test of its own for each sentence of Terms and of the promises, and each part of one that names
 * a boundary. What is quoted must stand in the document, and no word of it may be left unquoted.
 */
public final class EdgeTest {
    private static final Path DOC = Path.of("../shared/DOC.md");

    public static void main(String[] args) throws Exception {
        Edges edges = Edges.all();
        int wrong = 0;
        for (int i = 0; i < edges.count(); i++) {
            if (!edges.holds(i)) {
                wrong++;
            }
        }
        System.out.println("EdgeTest: " + edges.count() + " sentences, " + wrong + " do not hold");
        Due due = new Due("EdgeTest");
        quotes(due, edges);
        due.close();
        if (wrong > 0) {
            System.exit(1);
        }
    }

    private static void quotes(Due due, Edges edges) throws Exception {
        Map<String, String> sections = sections(Files.readString(DOC));
        Map<String, boolean[]> quoted = new LinkedHashMap<>();
        for (String name : sections.keySet()) {
            quoted.put(name, new boolean[sections.get(name).length()]);
        }
        for (int i = 0; i < edges.count(); i++) {
            String section = sections.getOrDefault(edges.section(i), "");
            int at = section.indexOf(edges.quote(i));
            due.is("stands in " + edges.section(i) + ": \"" + edges.quote(i) + "\"", at >= 0, true);
            if (at >= 0) {
                Arrays.fill(quoted.get(edges.section(i)), at, at + edges.quote(i).length(), true);
            }
        }
        for (String name : sections.keySet()) {
            if (!name.equals("What it is")) {
                String left = left(sections.get(name), quoted.get(name));
                due.is("is quoted by no test, in " + name + ": \"" + left + "\"", left.isEmpty(), true);
            }
        }
    }

    /** What has a letter or a digit that no test quotes, from the first such to the last. */
    private static String left(String text, boolean[] quoted) {
        int first = -1;
        int last = -1;
        for (int i = 0; i < text.length(); i++) {
            if (!quoted[i] && Character.isLetterOrDigit(text.charAt(i))) {
                first = first < 0 ? i : first;
                last = i;
            }
        }
        return first < 0 ? "" : text.substring(first, last + 1);
    }

    /** The opening, the parts of Terms and the promises, each in one line without its heading. */
    private static Map<String, String> sections(String doc) {
        Map<String, String> sections = new LinkedHashMap<>();
        for (String section : doc.split("(?m)^## ")) {
            int end = section.indexOf('\n');
            String name = end < 0 ? "" : section.substring(0, end).trim();
            String text = end < 0 ? "" : inOneLine(section.substring(end));
            if (name.equals("What it is")) {
                sections.put(name, text);
            } else if (name.equals("Terms")) {
                String[] parts = text.split("==== \\d\\. ");
                for (int i = 0; i < parts.length; i++) {
                    sections.put("Terms " + i, parts[i]);
                }
            } else if (name.startsWith("Promise ")) {
                // Behind the call's own line up to its colon.
                sections.put(name.substring(0, name.indexOf(':')), text.replaceFirst("^`[^`]*`: ", ""));
            }
        }
        return sections;
    }

    private static String inOneLine(String text) {
        return text.replace("```text", " ").replace("```", " ").replaceAll("\\s+", " ").trim();
    }
}
